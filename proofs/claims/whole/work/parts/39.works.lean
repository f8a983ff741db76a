/-! ===== the reference's run: returns, makes, applies, reckons, chooses, works; the loop ===== -/
theorem mVal_mVal {S : MSt} {v w : Val} : mVal (mVal S v) w = mVal S w := mVal2
def mWrk (S : MSt) (bg : Nat) : MSt := msA S 42 2 (nI (bg + 1))
def mMak (S : MSt) (p dp nf nc : Nat) (nm pr ch pl : Int32) : MSt := msA (msA (mKeep (msI (msI (msI (msA (msA (msA S 32 nf (nI (p + 4))) 33 nf pr) 34 nf ch) 40 1) 41 (nI nf)) 31 (nI (nf + 1))) nc nm ch) 37 dp (nI nc)) 36 dp pl
def mRec (S : MSt) (p dp nc : Nat) (nm ch x : Int32) : MSt := msA (msA (mKeep (msI (mVal S (false, x)) 41 x) nc nm ch) 37 dp (nI nc)) 36 dp (nI (p + 8))
section M18
variable {E : PE} {d o p dp nf nc bg : Nat} {g : PH} {S : MSt}
theorem c_makes {nm pr ch : Int32} {Q : List It} (hp : p + 4 < 800) (hdp : dp ≤ 12) (hf : S.1 31 = nI nf) (hnf : nf < 400) (hc : S.1 26 = nI nc) (hnc : nc < 900) (h1 : S.2 5 (p + 1) = nm) (h3 : S.2 5 (p + 3) = pr) (hch : S.2 37 dp = ch) (hT : TokAt (S.2 5) (p + 4) Q) (hQ : p + 4 + tsum Q ≤ 800) (hcl : closes 1 Q) (hq3 : 3 ≤ tsum Q) :
    Rn E (d + 2) 48 [.ref o, .int (nI p), .int (nI dp)] (mh g o S) none (mh g o (mMak S p dp nf nc nm pr ch (nI (p + 4 + tsum Q)))) := by
  refine Rn.of (Nat.le_of_ble_eq_true rfl) ?_
  refine Rk.tr (F1 := (48, 1, _, _)) (x_aload_n rfl rfl rfl) ?_
  refine Rk.tr (F1 := (48, 4, _, _)) (m_get rfl rfl (Nat.le_of_ble_eq_true rfl)) ?_
  refine Rk.tr (F1 := (48, 5, _, _)) (x_aload_n rfl rfl rfl) ?_
  refine Rk.tr (F1 := (48, 8, _, _)) (m_get rfl rfl (Nat.le_of_ble_eq_true rfl)) ?_
  refine Rk.tr (F1 := (48, 9, _, _)) (x_iload_n rfl rfl) ?_
  refine Rk.tr (F1 := (48, 10, _, _)) (x_iconst rfl) ?_
  refine Rk.tr (F1 := (48, 11, _, _)) (x_iadd rfl) ?_
  refine Rk.tr (F1 := (48, 11, _, _)) (x_top (nI_add p 4)) ?_
  refine Rk.tr (F1 := (48, 12, _, _)) (m_iast (k := 32) (n := nf) rfl rfl rfl (Nat.le_of_ble_eq_true rfl) hf hnf) ?_
  refine Rk.tr (F1 := (48, 13, _, _)) (x_aload_n rfl rfl rfl) ?_
  refine Rk.tr (F1 := (48, 16, _, _)) (m_get rfl rfl (Nat.le_of_ble_eq_true rfl)) ?_
  refine Rk.tr (F1 := (48, 17, _, _)) (x_aload_n rfl rfl rfl) ?_
  refine Rk.tr (F1 := (48, 20, _, _)) (m_get rfl rfl (Nat.le_of_ble_eq_true rfl)) ?_
  refine Rk.tr (F1 := (48, 21, _, _)) (x_aload_n rfl rfl rfl) ?_
  refine Rk.tr (F1 := (48, 24, _, _)) (m_get rfl rfl (Nat.le_of_ble_eq_true rfl)) ?_
  refine Rk.tr (F1 := (48, 25, _, _)) (x_iload_n rfl rfl) ?_
  refine Rk.tr (F1 := (48, 26, _, _)) (x_iconst rfl) ?_
  refine Rk.tr (F1 := (48, 27, _, _)) (x_iadd rfl) ?_
  refine Rk.tr (F1 := (48, 28, _, _)) (m_iald (k := 5) (n := p + 3) rfl rfl rfl (nI_add p 3) (show p + 3 < 800 by omega)) ?_
  refine Rk.tr (F1 := (48, 28, _, _)) (x_top (y := pr) h3) ?_
  refine Rk.tr (F1 := (48, 29, _, _)) (m_iast (k := 33) (n := nf) rfl rfl rfl (Nat.le_of_ble_eq_true rfl) hf hnf) ?_
  refine Rk.tr (F1 := (48, 30, _, _)) (x_aload_n rfl rfl rfl) ?_
  refine Rk.tr (F1 := (48, 33, _, _)) (m_get rfl rfl (Nat.le_of_ble_eq_true rfl)) ?_
  refine Rk.tr (F1 := (48, 34, _, _)) (x_aload_n rfl rfl rfl) ?_
  refine Rk.tr (F1 := (48, 37, _, _)) (m_get rfl rfl (Nat.le_of_ble_eq_true rfl)) ?_
  refine Rk.tr (F1 := (48, 38, _, _)) (x_aload_n rfl rfl rfl) ?_
  refine Rk.tr (F1 := (48, 41, _, _)) (m_get rfl rfl (Nat.le_of_ble_eq_true rfl)) ?_
  refine Rk.tr (F1 := (48, 42, _, _)) (x_iload_n rfl rfl) ?_
  refine Rk.tr (F1 := (48, 43, _, _)) (m_iald (k := 37) (n := dp) rfl rfl rfl rfl (show dp < 14 by omega)) ?_
  refine Rk.tr (F1 := (48, 43, _, _)) (x_top (y := ch) hch) ?_
  refine Rk.tr (F1 := (48, 44, _, _)) (m_iast (k := 34) (n := nf) rfl rfl rfl (Nat.le_of_ble_eq_true rfl) hf hnf) ?_
  refine Rk.tr (F1 := (48, 45, _, _)) (x_aload_n rfl rfl rfl) ?_
  refine Rk.tr (F1 := (48, 46, _, _)) (x_iconst rfl) ?_
  refine Rk.tr (F1 := (48, 49, _, _)) (m_put rfl rfl rfl rfl rfl rfl) ?_
  refine Rk.tr (F1 := (48, 50, _, _)) (x_aload_n rfl rfl rfl) ?_
  refine Rk.tr (F1 := (48, 51, _, _)) (x_aload_n rfl rfl rfl) ?_
  refine Rk.tr (F1 := (48, 54, _, _)) (m_get rfl rfl (Nat.le_of_ble_eq_true rfl)) ?_
  refine Rk.tr (F1 := (48, 54, _, _)) (x_top (y := nI nf) hf) ?_
  refine Rk.tr (F1 := (48, 57, _, _)) (m_put rfl rfl rfl rfl rfl rfl) ?_
  refine Rk.tr (F1 := (48, 58, _, _)) (x_aload_n rfl rfl rfl) ?_
  refine Rk.tr (F1 := (48, 59, _, _)) (x_dup rfl rfl) ?_
  refine Rk.tr (F1 := (48, 62, _, _)) (m_get rfl rfl (Nat.le_of_ble_eq_true rfl)) ?_
  refine Rk.tr (F1 := (48, 63, _, _)) (x_iconst rfl) ?_
  refine Rk.tr (F1 := (48, 64, _, _)) (x_iadd rfl) ?_
  refine Rk.tr (F1 := (48, 64, _, _)) (x_top (y := nI (nf + 1)) (by show S.1 31 + 1 = _; rw [hf, nI_1])) ?_
  refine Rk.tr (F1 := (48, 67, _, _)) (m_put rfl rfl rfl rfl rfl rfl) ?_
  refine Rk.tr (F1 := (48, 68, _, _)) (x_aload_n rfl rfl rfl) ?_
  refine Rk.tr (F1 := (48, 71, _, _)) (m_get rfl rfl (Nat.le_of_ble_eq_true rfl)) ?_
  refine Rk.tr (F1 := (48, 72, _, _)) (x_iload_n rfl rfl) ?_
  refine Rk.tr (F1 := (48, 73, _, _)) (x_aload_n rfl rfl rfl) ?_
  refine Rk.tr (F1 := (48, 74, _, _)) (x_aload_n rfl rfl rfl) ?_
  refine Rk.tr (F1 := (48, 77, _, _)) (m_get rfl rfl (Nat.le_of_ble_eq_true rfl)) ?_
  refine Rk.tr (F1 := (48, 78, _, _)) (x_iload_n rfl rfl) ?_
  refine Rk.tr (F1 := (48, 79, _, _)) (x_iconst rfl) ?_
  refine Rk.tr (F1 := (48, 80, _, _)) (x_iadd rfl) ?_
  refine Rk.tr (F1 := (48, 81, _, _)) (m_iald (k := 5) (n := p + 1) rfl rfl rfl (nI_1 p) (show p + 1 < 800 by omega)) ?_
  refine Rk.tr (F1 := (48, 81, _, _)) (x_top (y := nm) h1) ?_
  refine Rk.tr (F1 := (48, 82, _, _)) (x_aload_n rfl rfl rfl) ?_
  refine Rk.tr (F1 := (48, 85, _, _)) (m_get rfl rfl (Nat.le_of_ble_eq_true rfl)) ?_
  refine Rk.tr (F1 := (48, 86, _, _)) (x_iload_n rfl rfl) ?_
  refine Rk.tr (F1 := (48, 87, _, _)) (m_iald (k := 37) (n := dp) rfl rfl rfl rfl (show dp < 14 by omega)) ?_
  refine Rk.tr (F1 := (48, 87, _, _)) (x_top (y := ch) hch) ?_
  refine Rk.tr (F1 := (48, 90, _, _)) (m_call (As := [_, _]) rfl rfl rfl (Or.inr rfl) rfl rfl rfl (Nat.le_of_ble_eq_true rfl) (c_keep (b := true) hc hnc rfl) rfl) ?_
  refine Rk.tr (F1 := (48, 91, _, _)) (m_iast (k := 37) (n := dp) rfl rfl rfl (Nat.le_of_ble_eq_true rfl) rfl (show dp < 14 by omega)) ?_
  refine Rk.tr (F1 := (48, 92, _, _)) (x_aload_n rfl rfl rfl) ?_
  refine Rk.tr (F1 := (48, 95, _, _)) (m_get rfl rfl (Nat.le_of_ble_eq_true rfl)) ?_
  refine Rk.tr (F1 := (48, 96, _, _)) (x_iload_n rfl rfl) ?_
  refine Rk.tr (F1 := (48, 97, _, _)) (x_aload_n rfl rfl rfl) ?_
  refine Rk.tr (F1 := (48, 98, _, _)) (x_iload_n rfl rfl) ?_
  refine Rk.tr (F1 := (48, 99, _, _)) (x_iconst rfl) ?_
  refine Rk.tr (F1 := (48, 100, _, _)) (x_iadd rfl) ?_
  refine Rk.tr (F1 := (48, 100, _, _)) (x_top (nI_add p 4)) ?_
  refine Rk.tr (F1 := (48, 103, _, _)) (m_call (As := [_]) rfl rfl rfl (Or.inr rfl) rfl rfl rfl (Nat.le_of_ble_eq_true rfl) (c_rowEnd (Q := Q) hT hQ hcl) rfl) ?_
  refine Rk.tr (F1 := (48, 104, _, _)) (x_iconst rfl) ?_
  refine Rk.tr (F1 := (48, 105, _, _)) (x_iadd rfl) ?_
  refine Rk.tr (F1 := (48, 105, _, _)) (x_top (y := nI (p + 4 + tsum Q)) (by show nI (p + 4 + tsum Q - 3) + nI 3 = _; rw [nI_add, Nat.sub_add_cancel (by omega)])) ?_
  refine Rk.tr (F1 := (48, 106, _, _)) (m_iast (k := 36) (n := dp) rfl rfl rfl (Nat.le_of_ble_eq_true rfl) rfl (show dp < 14 by omega)) ?_
  exact Rk.end rfl (Or.inl ⟨rfl, rfl, rfl, rfl⟩)
theorem c_reck2 {a b : Int32 × Int32} {L : Env} {ch : Int32} (hp : p + 8 ≤ 800) (hdp : dp ≤ 12) (hch : S.2 37 dp = ch) (hnc : nc ≤ 900) (hE : En (rcl S nf) nc ch L) (a0 : S.2 5 (p + 4) = a.1) (a1 : S.2 5 (p + 4 + 1) = a.2) (b0 : S.2 5 (p + 6) = b.1) (b1 : S.2 5 (p + 6 + 1) = b.2) (ha : a.1 = 0 ∨ (a.1 = 1 ∧ a.2 ∈ L.map Prod.fst)) (hb : b.1 = 0 ∨ (b.1 = 1 ∧ b.2 ∈ L.map Prod.fst)) (hv : (lkE L a).1 = true ∨ (lkE L b).1 = true) :
    Rn E (d + 1) 50 [.ref o, .int (nI p), .int (nI dp)] (mh g o S) (some (.int 2)) (mh g o (mVal S (lkE L b))) := by
  refine Rn.of (Nat.le_of_ble_eq_true rfl) ?_
  rw [← mVal_mVal (v := lkE L a)]
  by_cases h1 : (lkE L a).1 = true
  · refine Rk.tr (F1 := (50, 1, _, _)) (x_aload_n rfl rfl rfl) ?_
    refine Rk.tr (F1 := (50, 2, _, _)) (x_iload_n rfl rfl) ?_
    refine Rk.tr (F1 := (50, 3, _, _)) (x_iconst rfl) ?_
    refine Rk.tr (F1 := (50, 4, _, _)) (x_iadd rfl) ?_
    refine Rk.tr (F1 := (50, 4, _, _)) (x_top (nI_add p 4)) ?_
    refine Rk.tr (F1 := (50, 5, _, _)) (x_aload_n rfl rfl rfl) ?_
    refine Rk.tr (F1 := (50, 8, _, _)) (m_get rfl rfl (Nat.le_of_ble_eq_true rfl)) ?_
    refine Rk.tr (F1 := (50, 9, _, _)) (x_iload_n rfl rfl) ?_
    refine Rk.tr (F1 := (50, 10, _, _)) (m_iald (k := 37) (n := dp) rfl rfl rfl rfl (show dp < 14 by omega)) ?_
    refine Rk.tr (F1 := (50, 10, _, _)) (x_top (y := ch) hch) ?_
    refine Rk.tr (F1 := (50, 13, _, _)) (m_call (As := [_, _]) rfl rfl rfl (Or.inr rfl) rfl rfl rfl (Nat.le_of_ble_eq_true rfl) (c_load (nf := nf) (by omega) a0 a1 hnc hE ha) rfl) ?_
    refine Rk.tr (F1 := (50, 14, _, _)) (x_aload_n rfl rfl rfl) ?_
    refine Rk.tr (F1 := (50, 17, _, _)) (m_get rfl rfl (Nat.le_of_ble_eq_true rfl)) ?_
    refine Rk.tr (F1 := (50, 18, [_, _, _, _, _], _)) (x_istore_n (i := 3) rfl (Nat.le_of_ble_eq_true rfl)) ?_
    refine Rk.tr (F1 := (50, 19, _, _)) (x_aload_n rfl rfl rfl) ?_
    refine Rk.tr (F1 := (50, 22, _, _)) (m_get rfl rfl (Nat.le_of_ble_eq_true rfl)) ?_
    refine Rk.tr (F1 := (50, 24, [_, _, _, _, _], _)) (x_istore (i := 4) rfl (Nat.le_of_ble_eq_true rfl)) ?_
    refine Rk.tr (F1 := (50, 25, _, _)) (x_aload_n rfl rfl rfl) ?_
    refine Rk.tr (F1 := (50, 26, _, _)) (x_iload_n rfl rfl) ?_
    refine Rk.tr (F1 := (50, 28, _, _)) (x_bipush rfl) ?_
    refine Rk.tr (F1 := (50, 29, _, _)) (x_iadd rfl) ?_
    refine Rk.tr (F1 := (50, 29, _, _)) (x_top (nI_add p 6)) ?_
    refine Rk.tr (F1 := (50, 30, _, _)) (x_aload_n rfl rfl rfl) ?_
    refine Rk.tr (F1 := (50, 33, _, _)) (m_get rfl rfl (Nat.le_of_ble_eq_true rfl)) ?_
    refine Rk.tr (F1 := (50, 34, _, _)) (x_iload_n rfl rfl) ?_
    refine Rk.tr (F1 := (50, 35, _, _)) (m_iald (k := 37) (n := dp) rfl rfl rfl rfl (show dp < 14 by omega)) ?_
    refine Rk.tr (F1 := (50, 35, _, _)) (x_top (y := ch) hch) ?_
    refine Rk.tr (F1 := (50, 38, _, _)) (m_call (As := [_, _]) rfl rfl rfl (Or.inr rfl) rfl rfl rfl (Nat.le_of_ble_eq_true rfl) (c_load (nf := nf) (S := mVal S (lkE L a)) (by omega) b0 b1 hnc (hE.mono (Nat.le_refl _) (fun _ _ _ _ _ h => h)) hb) rfl) ?_
    refine Rk.tr (F1 := (50, 39, _, _)) (x_iload_n rfl rfl) ?_
    refine Rk.tr (F1 := (50, 49, _, _)) (x_ifT rfl (tg := 49) rfl (show ¬ bI (lkE L a).1 = 0 by rw [h1]; decide)) ?_
    refine Rk.tr (F1 := (50, 50, _, _)) (x_iconst rfl) ?_
    exact Rk.end rfl (Or.inr (Or.inl ⟨rfl, _, .int, rfl, rfl, rfl, rfl⟩))
  · have h2 := hv.resolve_left h1
    have h1 : (lkE L a).1 = false := by cases h : (lkE L a).1 with | false => rfl | true => exact absurd h h1
    refine Rk.tr (F1 := (50, 1, _, _)) (x_aload_n rfl rfl rfl) ?_
    refine Rk.tr (F1 := (50, 2, _, _)) (x_iload_n rfl rfl) ?_
    refine Rk.tr (F1 := (50, 3, _, _)) (x_iconst rfl) ?_
    refine Rk.tr (F1 := (50, 4, _, _)) (x_iadd rfl) ?_
    refine Rk.tr (F1 := (50, 4, _, _)) (x_top (nI_add p 4)) ?_
    refine Rk.tr (F1 := (50, 5, _, _)) (x_aload_n rfl rfl rfl) ?_
    refine Rk.tr (F1 := (50, 8, _, _)) (m_get rfl rfl (Nat.le_of_ble_eq_true rfl)) ?_
    refine Rk.tr (F1 := (50, 9, _, _)) (x_iload_n rfl rfl) ?_
    refine Rk.tr (F1 := (50, 10, _, _)) (m_iald (k := 37) (n := dp) rfl rfl rfl rfl (show dp < 14 by omega)) ?_
    refine Rk.tr (F1 := (50, 10, _, _)) (x_top (y := ch) hch) ?_
    refine Rk.tr (F1 := (50, 13, _, _)) (m_call (As := [_, _]) rfl rfl rfl (Or.inr rfl) rfl rfl rfl (Nat.le_of_ble_eq_true rfl) (c_load (nf := nf) (by omega) a0 a1 hnc hE ha) rfl) ?_
    refine Rk.tr (F1 := (50, 14, _, _)) (x_aload_n rfl rfl rfl) ?_
    refine Rk.tr (F1 := (50, 17, _, _)) (m_get rfl rfl (Nat.le_of_ble_eq_true rfl)) ?_
    refine Rk.tr (F1 := (50, 18, [_, _, _, _, _], _)) (x_istore_n (i := 3) rfl (Nat.le_of_ble_eq_true rfl)) ?_
    refine Rk.tr (F1 := (50, 19, _, _)) (x_aload_n rfl rfl rfl) ?_
    refine Rk.tr (F1 := (50, 22, _, _)) (m_get rfl rfl (Nat.le_of_ble_eq_true rfl)) ?_
    refine Rk.tr (F1 := (50, 24, [_, _, _, _, _], _)) (x_istore (i := 4) rfl (Nat.le_of_ble_eq_true rfl)) ?_
    refine Rk.tr (F1 := (50, 25, _, _)) (x_aload_n rfl rfl rfl) ?_
    refine Rk.tr (F1 := (50, 26, _, _)) (x_iload_n rfl rfl) ?_
    refine Rk.tr (F1 := (50, 28, _, _)) (x_bipush rfl) ?_
    refine Rk.tr (F1 := (50, 29, _, _)) (x_iadd rfl) ?_
    refine Rk.tr (F1 := (50, 29, _, _)) (x_top (nI_add p 6)) ?_
    refine Rk.tr (F1 := (50, 30, _, _)) (x_aload_n rfl rfl rfl) ?_
    refine Rk.tr (F1 := (50, 33, _, _)) (m_get rfl rfl (Nat.le_of_ble_eq_true rfl)) ?_
    refine Rk.tr (F1 := (50, 34, _, _)) (x_iload_n rfl rfl) ?_
    refine Rk.tr (F1 := (50, 35, _, _)) (m_iald (k := 37) (n := dp) rfl rfl rfl rfl (show dp < 14 by omega)) ?_
    refine Rk.tr (F1 := (50, 35, _, _)) (x_top (y := ch) hch) ?_
    refine Rk.tr (F1 := (50, 38, _, _)) (m_call (As := [_, _]) rfl rfl rfl (Or.inr rfl) rfl rfl rfl (Nat.le_of_ble_eq_true rfl) (c_load (nf := nf) (S := mVal S (lkE L a)) (by omega) b0 b1 hnc (hE.mono (Nat.le_refl _) (fun _ _ _ _ _ h => h)) hb) rfl) ?_
    refine Rk.tr (F1 := (50, 39, _, _)) (x_iload_n rfl rfl) ?_
    refine Rk.tr (F1 := (50, 42, _, _)) (x_ifF rfl (tg := 49) rfl (fun z => z (show bI (lkE L a).1 = 0 by rw [h1]; rfl))) ?_
    refine Rk.tr (F1 := (50, 43, _, _)) (x_aload_n rfl rfl rfl) ?_
    refine Rk.tr (F1 := (50, 46, _, _)) (m_get rfl rfl (Nat.le_of_ble_eq_true rfl)) ?_
    refine Rk.tr (F1 := (50, 49, _, _)) (x_ifF rfl (tg := 51) rfl (show ¬ bI (lkE L b).1 = 0 by rw [h2]; decide)) ?_
    refine Rk.tr (F1 := (50, 50, _, _)) (x_iconst rfl) ?_
    exact Rk.end rfl (Or.inr (Or.inl ⟨rfl, _, .int, rfl, rfl, rfl, rfl⟩))
theorem c_reck3 {a b : Int32 × Int32} {L : Env} {ch dt : Int32} (hp : p + 8 ≤ 800) (hdp : dp ≤ 12) (hch : S.2 37 dp = ch) (hnc : nc < 900) (hE : En (rcl S nf) nc ch L) (a0 : S.2 5 (p + 4) = a.1) (a1 : S.2 5 (p + 4 + 1) = a.2) (b0 : S.2 5 (p + 6) = b.1) (b1 : S.2 5 (p + 6 + 1) = b.2) (h3 : S.2 5 (p + 3) = dt) (ha : a.1 = 0 ∨ (a.1 = 1 ∧ a.2 ∈ L.map Prod.fst)) (hb : b.1 = 0 ∨ (b.1 = 1 ∧ b.2 ∈ L.map Prod.fst)) (va : (lkE L a).1 = false) (vb : (lkE L b).1 = false) (hz : dt = 3 ∧ (lkE L b).2 = 0) :
    Rn E (d + 1) 50 [.ref o, .int (nI p), .int (nI dp)] (mh g o S) (some (.int 3)) (mh g o (mVal S (lkE L b))) := by
  refine Rn.of (Nat.le_of_ble_eq_true rfl) ?_
  rw [← mVal_mVal (v := lkE L a)]
  refine Rk.tr (F1 := (50, 1, _, _)) (x_aload_n rfl rfl rfl) ?_
  refine Rk.tr (F1 := (50, 2, _, _)) (x_iload_n rfl rfl) ?_
  refine Rk.tr (F1 := (50, 3, _, _)) (x_iconst rfl) ?_
  refine Rk.tr (F1 := (50, 4, _, _)) (x_iadd rfl) ?_
  refine Rk.tr (F1 := (50, 4, _, _)) (x_top (nI_add p 4)) ?_
  refine Rk.tr (F1 := (50, 5, _, _)) (x_aload_n rfl rfl rfl) ?_
  refine Rk.tr (F1 := (50, 8, _, _)) (m_get rfl rfl (Nat.le_of_ble_eq_true rfl)) ?_
  refine Rk.tr (F1 := (50, 9, _, _)) (x_iload_n rfl rfl) ?_
  refine Rk.tr (F1 := (50, 10, _, _)) (m_iald (k := 37) (n := dp) rfl rfl rfl rfl (show dp < 14 by omega)) ?_
  refine Rk.tr (F1 := (50, 10, _, _)) (x_top (y := ch) hch) ?_
  refine Rk.tr (F1 := (50, 13, _, _)) (m_call (As := [_, _]) rfl rfl rfl (Or.inr rfl) rfl rfl rfl (Nat.le_of_ble_eq_true rfl) (c_load (nf := nf) (by omega) a0 a1 (Nat.le_of_lt hnc) hE ha) rfl) ?_
  refine Rk.tr (F1 := (50, 14, _, _)) (x_aload_n rfl rfl rfl) ?_
  refine Rk.tr (F1 := (50, 17, _, _)) (m_get rfl rfl (Nat.le_of_ble_eq_true rfl)) ?_
  refine Rk.tr (F1 := (50, 18, [_, _, _, _, _], _)) (x_istore_n (i := 3) rfl (Nat.le_of_ble_eq_true rfl)) ?_
  refine Rk.tr (F1 := (50, 19, _, _)) (x_aload_n rfl rfl rfl) ?_
  refine Rk.tr (F1 := (50, 22, _, _)) (m_get rfl rfl (Nat.le_of_ble_eq_true rfl)) ?_
  refine Rk.tr (F1 := (50, 24, [_, _, _, _, _], _)) (x_istore (i := 4) rfl (Nat.le_of_ble_eq_true rfl)) ?_
  refine Rk.tr (F1 := (50, 25, _, _)) (x_aload_n rfl rfl rfl) ?_
  refine Rk.tr (F1 := (50, 26, _, _)) (x_iload_n rfl rfl) ?_
  refine Rk.tr (F1 := (50, 28, _, _)) (x_bipush rfl) ?_
  refine Rk.tr (F1 := (50, 29, _, _)) (x_iadd rfl) ?_
  refine Rk.tr (F1 := (50, 29, _, _)) (x_top (nI_add p 6)) ?_
  refine Rk.tr (F1 := (50, 30, _, _)) (x_aload_n rfl rfl rfl) ?_
  refine Rk.tr (F1 := (50, 33, _, _)) (m_get rfl rfl (Nat.le_of_ble_eq_true rfl)) ?_
  refine Rk.tr (F1 := (50, 34, _, _)) (x_iload_n rfl rfl) ?_
  refine Rk.tr (F1 := (50, 35, _, _)) (m_iald (k := 37) (n := dp) rfl rfl rfl rfl (show dp < 14 by omega)) ?_
  refine Rk.tr (F1 := (50, 35, _, _)) (x_top (y := ch) hch) ?_
  refine Rk.tr (F1 := (50, 38, _, _)) (m_call (As := [_, _]) rfl rfl rfl (Or.inr rfl) rfl rfl rfl (Nat.le_of_ble_eq_true rfl) (c_load (nf := nf) (S := mVal S (lkE L a)) (by omega) b0 b1 (Nat.le_of_lt hnc) (hE.mono (Nat.le_refl _) (fun _ _ _ _ _ h => h)) hb) rfl) ?_
  refine Rk.tr (F1 := (50, 39, _, _)) (x_iload_n rfl rfl) ?_
  refine Rk.tr (F1 := (50, 42, _, _)) (x_ifF rfl (tg := 49) rfl (fun z => z (show bI (lkE L a).1 = 0 by rw [va]; rfl))) ?_
  refine Rk.tr (F1 := (50, 43, _, _)) (x_aload_n rfl rfl rfl) ?_
  refine Rk.tr (F1 := (50, 46, _, _)) (m_get rfl rfl (Nat.le_of_ble_eq_true rfl)) ?_
  refine Rk.tr (F1 := (50, 51, _, _)) (x_ifT rfl (tg := 51) rfl (show bI (lkE L b).1 = 0 by rw [vb]; rfl)) ?_
  refine Rk.tr (F1 := (50, 52, _, _)) (x_aload_n rfl rfl rfl) ?_
  refine Rk.tr (F1 := (50, 55, _, _)) (m_get rfl rfl (Nat.le_of_ble_eq_true rfl)) ?_
  refine Rk.tr (F1 := (50, 56, _, _)) (x_iload_n rfl rfl) ?_
  refine Rk.tr (F1 := (50, 57, _, _)) (x_iconst rfl) ?_
  refine Rk.tr (F1 := (50, 58, _, _)) (x_iadd rfl) ?_
  refine Rk.tr (F1 := (50, 59, _, _)) (m_iald (k := 5) (n := p + 3) rfl rfl rfl (nI_add p 3) (show p + 3 < 800 by omega)) ?_
  refine Rk.tr (F1 := (50, 59, _, _)) (x_top (y := dt) h3) ?_
  refine Rk.tr (F1 := (50, 60, _, _)) (x_iconst rfl) ?_
  refine Rk.tr (F1 := (50, 63, _, _)) (x_icF rfl (tg := 72) rfl (fun z => z hz.1)) ?_
  refine Rk.tr (F1 := (50, 64, _, _)) (x_aload_n rfl rfl rfl) ?_
  refine Rk.tr (F1 := (50, 67, _, _)) (m_get rfl rfl (Nat.le_of_ble_eq_true rfl)) ?_
  refine Rk.tr (F1 := (50, 70, _, _)) (x_ifF rfl (tg := 72) rfl (fun z => z hz.2)) ?_
  refine Rk.tr (F1 := (50, 71, _, _)) (x_iconst rfl) ?_
  exact Rk.end rfl (Or.inr (Or.inl ⟨rfl, _, .int, rfl, rfl, rfl, rfl⟩))
theorem c_reck {a b : Int32 × Int32} {L : Env} {ch dt : Int32} (hp : p + 8 ≤ 800) (hdp : dp ≤ 12) (hch : S.2 37 dp = ch) (hnc : nc < 900) (hE : En (rcl S nf) nc ch L) (a0 : S.2 5 (p + 4) = a.1) (a1 : S.2 5 (p + 4 + 1) = a.2) (b0 : S.2 5 (p + 6) = b.1) (b1 : S.2 5 (p + 6 + 1) = b.2) (h3 : S.2 5 (p + 3) = dt) (ha : a.1 = 0 ∨ (a.1 = 1 ∧ a.2 ∈ L.map Prod.fst)) (hb : b.1 = 0 ∨ (b.1 = 1 ∧ b.2 ∈ L.map Prod.fst)) (va : (lkE L a).1 = false) (vb : (lkE L b).1 = false) {nm : Int32} (hc : S.1 26 = nI nc) (h1 : S.2 5 (p + 1) = nm) (hz : ¬ (dt = 3 ∧ (lkE L b).2 = 0)) :
    Rn E (d + 1) 50 [.ref o, .int (nI p), .int (nI dp)] (mh g o S) (some (.int 0)) (mh g o (mRec S p dp nc nm ch (opv dt (lkE L a).2 (lkE L b).2))) := by
  refine Rn.of (Nat.le_of_ble_eq_true rfl) ?_
  have e : msI (mVal S (false, opv dt (lkE L a).2 (lkE L b).2)) 41 (opv dt (lkE L a).2 (lkE L b).2) = msI (mVal (mVal S (lkE L a)) (lkE L b)) 41 (opv dt (lkE L a).2 (lkE L b).2) := by
    rw [mVal_mVal]
    unfold mVal
    rw [vb]
    refine Prod.ext (funext fun j => ?_) rfl
    show (if j = 41 then _ else if j = 41 then _ else if j = 40 then _ else S.1 j) = (if j = 41 then _ else if j = 41 then _ else if j = 40 then _ else S.1 j)
    by_cases h : j = 41
    · rw [if_pos h, if_pos h]
    · rw [if_neg h, if_neg h, if_neg h, if_neg h]
  unfold mRec
  rw [e]
  by_cases hd3 : dt = 3
  · refine Rk.tr (F1 := (50, 1, _, _)) (x_aload_n rfl rfl rfl) ?_
    refine Rk.tr (F1 := (50, 2, _, _)) (x_iload_n rfl rfl) ?_
    refine Rk.tr (F1 := (50, 3, _, _)) (x_iconst rfl) ?_
    refine Rk.tr (F1 := (50, 4, _, _)) (x_iadd rfl) ?_
    refine Rk.tr (F1 := (50, 4, _, _)) (x_top (nI_add p 4)) ?_
    refine Rk.tr (F1 := (50, 5, _, _)) (x_aload_n rfl rfl rfl) ?_
    refine Rk.tr (F1 := (50, 8, _, _)) (m_get rfl rfl (Nat.le_of_ble_eq_true rfl)) ?_
    refine Rk.tr (F1 := (50, 9, _, _)) (x_iload_n rfl rfl) ?_
    refine Rk.tr (F1 := (50, 10, _, _)) (m_iald (k := 37) (n := dp) rfl rfl rfl rfl (show dp < 14 by omega)) ?_
    refine Rk.tr (F1 := (50, 10, _, _)) (x_top (y := ch) hch) ?_
    refine Rk.tr (F1 := (50, 13, _, _)) (m_call (As := [_, _]) rfl rfl rfl (Or.inr rfl) rfl rfl rfl (Nat.le_of_ble_eq_true rfl) (c_load (nf := nf) (by omega) a0 a1 (Nat.le_of_lt hnc) hE ha) rfl) ?_
    refine Rk.tr (F1 := (50, 14, _, _)) (x_aload_n rfl rfl rfl) ?_
    refine Rk.tr (F1 := (50, 17, _, _)) (m_get rfl rfl (Nat.le_of_ble_eq_true rfl)) ?_
    refine Rk.tr (F1 := (50, 18, [_, _, _, _, _], _)) (x_istore_n (i := 3) rfl (Nat.le_of_ble_eq_true rfl)) ?_
    refine Rk.tr (F1 := (50, 19, _, _)) (x_aload_n rfl rfl rfl) ?_
    refine Rk.tr (F1 := (50, 22, _, _)) (m_get rfl rfl (Nat.le_of_ble_eq_true rfl)) ?_
    refine Rk.tr (F1 := (50, 24, [_, _, _, _, _], _)) (x_istore (i := 4) rfl (Nat.le_of_ble_eq_true rfl)) ?_
    refine Rk.tr (F1 := (50, 25, _, _)) (x_aload_n rfl rfl rfl) ?_
    refine Rk.tr (F1 := (50, 26, _, _)) (x_iload_n rfl rfl) ?_
    refine Rk.tr (F1 := (50, 28, _, _)) (x_bipush rfl) ?_
    refine Rk.tr (F1 := (50, 29, _, _)) (x_iadd rfl) ?_
    refine Rk.tr (F1 := (50, 29, _, _)) (x_top (nI_add p 6)) ?_
    refine Rk.tr (F1 := (50, 30, _, _)) (x_aload_n rfl rfl rfl) ?_
    refine Rk.tr (F1 := (50, 33, _, _)) (m_get rfl rfl (Nat.le_of_ble_eq_true rfl)) ?_
    refine Rk.tr (F1 := (50, 34, _, _)) (x_iload_n rfl rfl) ?_
    refine Rk.tr (F1 := (50, 35, _, _)) (m_iald (k := 37) (n := dp) rfl rfl rfl rfl (show dp < 14 by omega)) ?_
    refine Rk.tr (F1 := (50, 35, _, _)) (x_top (y := ch) hch) ?_
    refine Rk.tr (F1 := (50, 38, _, _)) (m_call (As := [_, _]) rfl rfl rfl (Or.inr rfl) rfl rfl rfl (Nat.le_of_ble_eq_true rfl) (c_load (nf := nf) (S := mVal S (lkE L a)) (by omega) b0 b1 (Nat.le_of_lt hnc) (hE.mono (Nat.le_refl _) (fun _ _ _ _ _ h => h)) hb) rfl) ?_
    refine Rk.tr (F1 := (50, 39, _, _)) (x_iload_n rfl rfl) ?_
    refine Rk.tr (F1 := (50, 42, _, _)) (x_ifF rfl (tg := 49) rfl (fun z => z (show bI (lkE L a).1 = 0 by rw [va]; rfl))) ?_
    refine Rk.tr (F1 := (50, 43, _, _)) (x_aload_n rfl rfl rfl) ?_
    refine Rk.tr (F1 := (50, 46, _, _)) (m_get rfl rfl (Nat.le_of_ble_eq_true rfl)) ?_
    refine Rk.tr (F1 := (50, 51, _, _)) (x_ifT rfl (tg := 51) rfl (show bI (lkE L b).1 = 0 by rw [vb]; rfl)) ?_
    refine Rk.tr (F1 := (50, 52, _, _)) (x_aload_n rfl rfl rfl) ?_
    refine Rk.tr (F1 := (50, 55, _, _)) (m_get rfl rfl (Nat.le_of_ble_eq_true rfl)) ?_
    refine Rk.tr (F1 := (50, 56, _, _)) (x_iload_n rfl rfl) ?_
    refine Rk.tr (F1 := (50, 57, _, _)) (x_iconst rfl) ?_
    refine Rk.tr (F1 := (50, 58, _, _)) (x_iadd rfl) ?_
    refine Rk.tr (F1 := (50, 59, _, _)) (m_iald (k := 5) (n := p + 3) rfl rfl rfl (nI_add p 3) (show p + 3 < 800 by omega)) ?_
    refine Rk.tr (F1 := (50, 59, _, _)) (x_top (y := dt) h3) ?_
    refine Rk.tr (F1 := (50, 60, _, _)) (x_iconst rfl) ?_
    refine Rk.tr (F1 := (50, 63, _, _)) (x_icF rfl (tg := 72) rfl (fun z => z hd3)) ?_
    refine Rk.tr (F1 := (50, 64, _, _)) (x_aload_n rfl rfl rfl) ?_
    refine Rk.tr (F1 := (50, 67, _, _)) (m_get rfl rfl (Nat.le_of_ble_eq_true rfl)) ?_
    refine Rk.tr (F1 := (50, 72, _, _)) (x_ifT rfl (tg := 72) rfl (fun z => hz ⟨hd3, z⟩)) ?_
    refine Rk.tr (F1 := (50, 73, _, _)) (x_aload_n rfl rfl rfl) ?_
    refine Rk.tr (F1 := (50, 74, _, _)) (x_aload_n rfl rfl rfl) ?_
    refine Rk.tr (F1 := (50, 77, _, _)) (m_get rfl rfl (Nat.le_of_ble_eq_true rfl)) ?_
    refine Rk.tr (F1 := (50, 78, _, _)) (x_iload_n rfl rfl) ?_
    refine Rk.tr (F1 := (50, 79, _, _)) (x_iconst rfl) ?_
    refine Rk.tr (F1 := (50, 80, _, _)) (x_iadd rfl) ?_
    refine Rk.tr (F1 := (50, 81, _, _)) (m_iald (k := 5) (n := p + 3) rfl rfl rfl (nI_add p 3) (show p + 3 < 800 by omega)) ?_
    refine Rk.tr (F1 := (50, 81, _, _)) (x_top (y := dt) h3) ?_
    refine Rk.tr (F1 := (50, 83, _, _)) (x_iload rfl rfl) ?_
    refine Rk.tr (F1 := (50, 84, _, _)) (x_aload_n rfl rfl rfl) ?_
    refine Rk.tr (F1 := (50, 87, _, _)) (m_get rfl rfl (Nat.le_of_ble_eq_true rfl)) ?_
    refine Rk.tr (F1 := (50, 90, _, _)) (x_calls (As := [_, _, _]) rfl rfl rfl rfl rfl rfl (Nat.le_of_ble_eq_true rfl) (c_sum (fun z => fun w => hz ⟨z, w⟩)) rfl) ?_
    refine Rk.tr (F1 := (50, 93, _, _)) (m_put rfl rfl rfl rfl rfl rfl) ?_
    refine Rk.tr (F1 := (50, 94, _, _)) (x_aload_n rfl rfl rfl) ?_
    refine Rk.tr (F1 := (50, 97, _, _)) (m_get rfl rfl (Nat.le_of_ble_eq_true rfl)) ?_
    refine Rk.tr (F1 := (50, 98, _, _)) (x_iload_n rfl rfl) ?_
    refine Rk.tr (F1 := (50, 99, _, _)) (x_aload_n rfl rfl rfl) ?_
    refine Rk.tr (F1 := (50, 100, _, _)) (x_aload_n rfl rfl rfl) ?_
    refine Rk.tr (F1 := (50, 103, _, _)) (m_get rfl rfl (Nat.le_of_ble_eq_true rfl)) ?_
    refine Rk.tr (F1 := (50, 104, _, _)) (x_iload_n rfl rfl) ?_
    refine Rk.tr (F1 := (50, 105, _, _)) (x_iconst rfl) ?_
    refine Rk.tr (F1 := (50, 106, _, _)) (x_iadd rfl) ?_
    refine Rk.tr (F1 := (50, 107, _, _)) (m_iald (k := 5) (n := p + 1) rfl rfl rfl (nI_1 p) (show p + 1 < 800 by omega)) ?_
    refine Rk.tr (F1 := (50, 107, _, _)) (x_top (y := nm) h1) ?_
    refine Rk.tr (F1 := (50, 108, _, _)) (x_aload_n rfl rfl rfl) ?_
    refine Rk.tr (F1 := (50, 111, _, _)) (m_get rfl rfl (Nat.le_of_ble_eq_true rfl)) ?_
    refine Rk.tr (F1 := (50, 112, _, _)) (x_iload_n rfl rfl) ?_
    refine Rk.tr (F1 := (50, 113, _, _)) (m_iald (k := 37) (n := dp) rfl rfl rfl rfl (show dp < 14 by omega)) ?_
    refine Rk.tr (F1 := (50, 113, _, _)) (x_top (y := ch) hch) ?_
    refine Rk.tr (F1 := (50, 116, _, _)) (m_call (As := [_, _]) rfl rfl rfl (Or.inr rfl) rfl rfl rfl (Nat.le_of_ble_eq_true rfl) (c_keep (b := false) hc hnc (show bI (lkE L b).1 = bI false by rw [vb])) rfl) ?_
    refine Rk.tr (F1 := (50, 117, _, _)) (m_iast (k := 37) (n := dp) rfl rfl rfl (Nat.le_of_ble_eq_true rfl) rfl (show dp < 14 by omega)) ?_
    refine Rk.tr (F1 := (50, 118, _, _)) (x_aload_n rfl rfl rfl) ?_
    refine Rk.tr (F1 := (50, 121, _, _)) (m_get rfl rfl (Nat.le_of_ble_eq_true rfl)) ?_
    refine Rk.tr (F1 := (50, 122, _, _)) (x_iload_n rfl rfl) ?_
    refine Rk.tr (F1 := (50, 123, _, _)) (x_iload_n rfl rfl) ?_
    refine Rk.tr (F1 := (50, 125, _, _)) (x_bipush rfl) ?_
    refine Rk.tr (F1 := (50, 126, _, _)) (x_iadd rfl) ?_
    refine Rk.tr (F1 := (50, 126, _, _)) (x_top (nI_add p 8)) ?_
    refine Rk.tr (F1 := (50, 127, _, _)) (m_iast (k := 36) (n := dp) rfl rfl rfl (Nat.le_of_ble_eq_true rfl) rfl (show dp < 14 by omega)) ?_
    refine Rk.tr (F1 := (50, 128, _, _)) (x_iconst rfl) ?_
    exact Rk.end rfl (Or.inr (Or.inl ⟨rfl, _, .int, rfl, rfl, rfl, rfl⟩))
  · refine Rk.tr (F1 := (50, 1, _, _)) (x_aload_n rfl rfl rfl) ?_
    refine Rk.tr (F1 := (50, 2, _, _)) (x_iload_n rfl rfl) ?_
    refine Rk.tr (F1 := (50, 3, _, _)) (x_iconst rfl) ?_
    refine Rk.tr (F1 := (50, 4, _, _)) (x_iadd rfl) ?_
    refine Rk.tr (F1 := (50, 4, _, _)) (x_top (nI_add p 4)) ?_
    refine Rk.tr (F1 := (50, 5, _, _)) (x_aload_n rfl rfl rfl) ?_
    refine Rk.tr (F1 := (50, 8, _, _)) (m_get rfl rfl (Nat.le_of_ble_eq_true rfl)) ?_
    refine Rk.tr (F1 := (50, 9, _, _)) (x_iload_n rfl rfl) ?_
    refine Rk.tr (F1 := (50, 10, _, _)) (m_iald (k := 37) (n := dp) rfl rfl rfl rfl (show dp < 14 by omega)) ?_
    refine Rk.tr (F1 := (50, 10, _, _)) (x_top (y := ch) hch) ?_
    refine Rk.tr (F1 := (50, 13, _, _)) (m_call (As := [_, _]) rfl rfl rfl (Or.inr rfl) rfl rfl rfl (Nat.le_of_ble_eq_true rfl) (c_load (nf := nf) (by omega) a0 a1 (Nat.le_of_lt hnc) hE ha) rfl) ?_
    refine Rk.tr (F1 := (50, 14, _, _)) (x_aload_n rfl rfl rfl) ?_
    refine Rk.tr (F1 := (50, 17, _, _)) (m_get rfl rfl (Nat.le_of_ble_eq_true rfl)) ?_
    refine Rk.tr (F1 := (50, 18, [_, _, _, _, _], _)) (x_istore_n (i := 3) rfl (Nat.le_of_ble_eq_true rfl)) ?_
    refine Rk.tr (F1 := (50, 19, _, _)) (x_aload_n rfl rfl rfl) ?_
    refine Rk.tr (F1 := (50, 22, _, _)) (m_get rfl rfl (Nat.le_of_ble_eq_true rfl)) ?_
    refine Rk.tr (F1 := (50, 24, [_, _, _, _, _], _)) (x_istore (i := 4) rfl (Nat.le_of_ble_eq_true rfl)) ?_
    refine Rk.tr (F1 := (50, 25, _, _)) (x_aload_n rfl rfl rfl) ?_
    refine Rk.tr (F1 := (50, 26, _, _)) (x_iload_n rfl rfl) ?_
    refine Rk.tr (F1 := (50, 28, _, _)) (x_bipush rfl) ?_
    refine Rk.tr (F1 := (50, 29, _, _)) (x_iadd rfl) ?_
    refine Rk.tr (F1 := (50, 29, _, _)) (x_top (nI_add p 6)) ?_
    refine Rk.tr (F1 := (50, 30, _, _)) (x_aload_n rfl rfl rfl) ?_
    refine Rk.tr (F1 := (50, 33, _, _)) (m_get rfl rfl (Nat.le_of_ble_eq_true rfl)) ?_
    refine Rk.tr (F1 := (50, 34, _, _)) (x_iload_n rfl rfl) ?_
    refine Rk.tr (F1 := (50, 35, _, _)) (m_iald (k := 37) (n := dp) rfl rfl rfl rfl (show dp < 14 by omega)) ?_
    refine Rk.tr (F1 := (50, 35, _, _)) (x_top (y := ch) hch) ?_
    refine Rk.tr (F1 := (50, 38, _, _)) (m_call (As := [_, _]) rfl rfl rfl (Or.inr rfl) rfl rfl rfl (Nat.le_of_ble_eq_true rfl) (c_load (nf := nf) (S := mVal S (lkE L a)) (by omega) b0 b1 (Nat.le_of_lt hnc) (hE.mono (Nat.le_refl _) (fun _ _ _ _ _ h => h)) hb) rfl) ?_
    refine Rk.tr (F1 := (50, 39, _, _)) (x_iload_n rfl rfl) ?_
    refine Rk.tr (F1 := (50, 42, _, _)) (x_ifF rfl (tg := 49) rfl (fun z => z (show bI (lkE L a).1 = 0 by rw [va]; rfl))) ?_
    refine Rk.tr (F1 := (50, 43, _, _)) (x_aload_n rfl rfl rfl) ?_
    refine Rk.tr (F1 := (50, 46, _, _)) (m_get rfl rfl (Nat.le_of_ble_eq_true rfl)) ?_
    refine Rk.tr (F1 := (50, 51, _, _)) (x_ifT rfl (tg := 51) rfl (show bI (lkE L b).1 = 0 by rw [vb]; rfl)) ?_
    refine Rk.tr (F1 := (50, 52, _, _)) (x_aload_n rfl rfl rfl) ?_
    refine Rk.tr (F1 := (50, 55, _, _)) (m_get rfl rfl (Nat.le_of_ble_eq_true rfl)) ?_
    refine Rk.tr (F1 := (50, 56, _, _)) (x_iload_n rfl rfl) ?_
    refine Rk.tr (F1 := (50, 57, _, _)) (x_iconst rfl) ?_
    refine Rk.tr (F1 := (50, 58, _, _)) (x_iadd rfl) ?_
    refine Rk.tr (F1 := (50, 59, _, _)) (m_iald (k := 5) (n := p + 3) rfl rfl rfl (nI_add p 3) (show p + 3 < 800 by omega)) ?_
    refine Rk.tr (F1 := (50, 59, _, _)) (x_top (y := dt) h3) ?_
    refine Rk.tr (F1 := (50, 60, _, _)) (x_iconst rfl) ?_
    refine Rk.tr (F1 := (50, 72, _, _)) (x_icT rfl (tg := 72) rfl hd3) ?_
    refine Rk.tr (F1 := (50, 73, _, _)) (x_aload_n rfl rfl rfl) ?_
    refine Rk.tr (F1 := (50, 74, _, _)) (x_aload_n rfl rfl rfl) ?_
    refine Rk.tr (F1 := (50, 77, _, _)) (m_get rfl rfl (Nat.le_of_ble_eq_true rfl)) ?_
    refine Rk.tr (F1 := (50, 78, _, _)) (x_iload_n rfl rfl) ?_
    refine Rk.tr (F1 := (50, 79, _, _)) (x_iconst rfl) ?_
    refine Rk.tr (F1 := (50, 80, _, _)) (x_iadd rfl) ?_
    refine Rk.tr (F1 := (50, 81, _, _)) (m_iald (k := 5) (n := p + 3) rfl rfl rfl (nI_add p 3) (show p + 3 < 800 by omega)) ?_
    refine Rk.tr (F1 := (50, 81, _, _)) (x_top (y := dt) h3) ?_
    refine Rk.tr (F1 := (50, 83, _, _)) (x_iload rfl rfl) ?_
    refine Rk.tr (F1 := (50, 84, _, _)) (x_aload_n rfl rfl rfl) ?_
    refine Rk.tr (F1 := (50, 87, _, _)) (m_get rfl rfl (Nat.le_of_ble_eq_true rfl)) ?_
    refine Rk.tr (F1 := (50, 90, _, _)) (x_calls (As := [_, _, _]) rfl rfl rfl rfl rfl rfl (Nat.le_of_ble_eq_true rfl) (c_sum (fun z => fun w => hz ⟨z, w⟩)) rfl) ?_
    refine Rk.tr (F1 := (50, 93, _, _)) (m_put rfl rfl rfl rfl rfl rfl) ?_
    refine Rk.tr (F1 := (50, 94, _, _)) (x_aload_n rfl rfl rfl) ?_
    refine Rk.tr (F1 := (50, 97, _, _)) (m_get rfl rfl (Nat.le_of_ble_eq_true rfl)) ?_
    refine Rk.tr (F1 := (50, 98, _, _)) (x_iload_n rfl rfl) ?_
    refine Rk.tr (F1 := (50, 99, _, _)) (x_aload_n rfl rfl rfl) ?_
    refine Rk.tr (F1 := (50, 100, _, _)) (x_aload_n rfl rfl rfl) ?_
    refine Rk.tr (F1 := (50, 103, _, _)) (m_get rfl rfl (Nat.le_of_ble_eq_true rfl)) ?_
    refine Rk.tr (F1 := (50, 104, _, _)) (x_iload_n rfl rfl) ?_
    refine Rk.tr (F1 := (50, 105, _, _)) (x_iconst rfl) ?_
    refine Rk.tr (F1 := (50, 106, _, _)) (x_iadd rfl) ?_
    refine Rk.tr (F1 := (50, 107, _, _)) (m_iald (k := 5) (n := p + 1) rfl rfl rfl (nI_1 p) (show p + 1 < 800 by omega)) ?_
    refine Rk.tr (F1 := (50, 107, _, _)) (x_top (y := nm) h1) ?_
    refine Rk.tr (F1 := (50, 108, _, _)) (x_aload_n rfl rfl rfl) ?_
    refine Rk.tr (F1 := (50, 111, _, _)) (m_get rfl rfl (Nat.le_of_ble_eq_true rfl)) ?_
    refine Rk.tr (F1 := (50, 112, _, _)) (x_iload_n rfl rfl) ?_
    refine Rk.tr (F1 := (50, 113, _, _)) (m_iald (k := 37) (n := dp) rfl rfl rfl rfl (show dp < 14 by omega)) ?_
    refine Rk.tr (F1 := (50, 113, _, _)) (x_top (y := ch) hch) ?_
    refine Rk.tr (F1 := (50, 116, _, _)) (m_call (As := [_, _]) rfl rfl rfl (Or.inr rfl) rfl rfl rfl (Nat.le_of_ble_eq_true rfl) (c_keep (b := false) hc hnc (show bI (lkE L b).1 = bI false by rw [vb])) rfl) ?_
    refine Rk.tr (F1 := (50, 117, _, _)) (m_iast (k := 37) (n := dp) rfl rfl rfl (Nat.le_of_ble_eq_true rfl) rfl (show dp < 14 by omega)) ?_
    refine Rk.tr (F1 := (50, 118, _, _)) (x_aload_n rfl rfl rfl) ?_
    refine Rk.tr (F1 := (50, 121, _, _)) (m_get rfl rfl (Nat.le_of_ble_eq_true rfl)) ?_
    refine Rk.tr (F1 := (50, 122, _, _)) (x_iload_n rfl rfl) ?_
    refine Rk.tr (F1 := (50, 123, _, _)) (x_iload_n rfl rfl) ?_
    refine Rk.tr (F1 := (50, 125, _, _)) (x_bipush rfl) ?_
    refine Rk.tr (F1 := (50, 126, _, _)) (x_iadd rfl) ?_
    refine Rk.tr (F1 := (50, 126, _, _)) (x_top (nI_add p 8)) ?_
    refine Rk.tr (F1 := (50, 127, _, _)) (m_iast (k := 36) (n := dp) rfl rfl rfl (Nat.le_of_ble_eq_true rfl) rfl (show dp < 14 by omega)) ?_
    refine Rk.tr (F1 := (50, 128, _, _)) (x_iconst rfl) ?_
    exact Rk.end rfl (Or.inr (Or.inl ⟨rfl, _, .int, rfl, rfl, rfl, rfl⟩))
theorem c_app1 {a b : Int32 × Int32} {L : Env} {ch : Int32} (hp : p + 7 ≤ 800) (hdp : dp ≤ 12) (hch : S.2 37 dp = ch) (hnc : nc < 900) (hE : En (rcl S nf) nc ch L) (a0 : S.2 5 (p + 3) = a.1) (a1 : S.2 5 (p + 3 + 1) = a.2) (b0 : S.2 5 (p + 5) = b.1) (b1 : S.2 5 (p + 5 + 1) = b.2) (ha : a.1 = 0 ∨ (a.1 = 1 ∧ a.2 ∈ L.map Prod.fst)) (hb : b.1 = 0 ∨ (b.1 = 1 ∧ b.2 ∈ L.map Prod.fst)) (va : (lkE L a).1 = false) :
    Rn E (d + 1) 49 [.ref o, .int (nI p), .int (nI dp)] (mh g o S) (some (.int 1)) (mh g o (mVal S (lkE L a))) := by
  refine Rn.of (Nat.le_of_ble_eq_true rfl) ?_
  refine Rk.tr (F1 := (49, 1, _, _)) (x_aload_n rfl rfl rfl) ?_
  refine Rk.tr (F1 := (49, 2, _, _)) (x_iload_n rfl rfl) ?_
  refine Rk.tr (F1 := (49, 3, _, _)) (x_iconst rfl) ?_
  refine Rk.tr (F1 := (49, 4, _, _)) (x_iadd rfl) ?_
  refine Rk.tr (F1 := (49, 4, _, _)) (x_top (nI_add p 3)) ?_
  refine Rk.tr (F1 := (49, 5, _, _)) (x_aload_n rfl rfl rfl) ?_
  refine Rk.tr (F1 := (49, 8, _, _)) (m_get rfl rfl (Nat.le_of_ble_eq_true rfl)) ?_
  refine Rk.tr (F1 := (49, 9, _, _)) (x_iload_n rfl rfl) ?_
  refine Rk.tr (F1 := (49, 10, _, _)) (m_iald (k := 37) (n := dp) rfl rfl rfl rfl (show dp < 14 by omega)) ?_
  refine Rk.tr (F1 := (49, 10, _, _)) (x_top (y := ch) hch) ?_
  refine Rk.tr (F1 := (49, 13, _, _)) (m_call (As := [_, _]) rfl rfl rfl (Or.inr rfl) rfl rfl rfl (Nat.le_of_ble_eq_true rfl) (c_load (nf := nf) (by omega) a0 a1 (Nat.le_of_lt hnc) hE ha) rfl) ?_
  refine Rk.tr (F1 := (49, 14, _, _)) (x_aload_n rfl rfl rfl) ?_
  refine Rk.tr (F1 := (49, 17, _, _)) (m_get rfl rfl (Nat.le_of_ble_eq_true rfl)) ?_
  refine Rk.tr (F1 := (49, 20, _, _)) (x_ifF rfl (tg := 22) rfl (fun z => z (show bI (lkE L a).1 = 0 by rw [va]; rfl))) ?_
  refine Rk.tr (F1 := (49, 21, _, _)) (x_iconst rfl) ?_
  exact Rk.end rfl (Or.inr (Or.inl ⟨rfl, _, .int, rfl, rfl, rfl, rfl⟩))
theorem c_app4 {a b : Int32 × Int32} {L : Env} {ch : Int32} (hp : p + 7 ≤ 800) (hdp : dp ≤ 12) (hch : S.2 37 dp = ch) (hnc : nc < 900) (hE : En (rcl S nf) nc ch L) (a0 : S.2 5 (p + 3) = a.1) (a1 : S.2 5 (p + 3 + 1) = a.2) (b0 : S.2 5 (p + 5) = b.1) (b1 : S.2 5 (p + 5 + 1) = b.2) (ha : a.1 = 0 ∨ (a.1 = 1 ∧ a.2 ∈ L.map Prod.fst)) (hb : b.1 = 0 ∨ (b.1 = 1 ∧ b.2 ∈ L.map Prod.fst)) (va : (lkE L a).1 = true) (h13 : S.1 35 = 13) :
    Rn E (d + 1) 49 [.ref o, .int (nI p), .int (nI dp)] (mh g o S) (some (.int 4)) (mh g o (mVal S (lkE L b))) := by
  refine Rn.of (Nat.le_of_ble_eq_true rfl) ?_
  rw [← mVal_mVal (v := lkE L a)]
  refine Rk.tr (F1 := (49, 1, _, _)) (x_aload_n rfl rfl rfl) ?_
  refine Rk.tr (F1 := (49, 2, _, _)) (x_iload_n rfl rfl) ?_
  refine Rk.tr (F1 := (49, 3, _, _)) (x_iconst rfl) ?_
  refine Rk.tr (F1 := (49, 4, _, _)) (x_iadd rfl) ?_
  refine Rk.tr (F1 := (49, 4, _, _)) (x_top (nI_add p 3)) ?_
  refine Rk.tr (F1 := (49, 5, _, _)) (x_aload_n rfl rfl rfl) ?_
  refine Rk.tr (F1 := (49, 8, _, _)) (m_get rfl rfl (Nat.le_of_ble_eq_true rfl)) ?_
  refine Rk.tr (F1 := (49, 9, _, _)) (x_iload_n rfl rfl) ?_
  refine Rk.tr (F1 := (49, 10, _, _)) (m_iald (k := 37) (n := dp) rfl rfl rfl rfl (show dp < 14 by omega)) ?_
  refine Rk.tr (F1 := (49, 10, _, _)) (x_top (y := ch) hch) ?_
  refine Rk.tr (F1 := (49, 13, _, _)) (m_call (As := [_, _]) rfl rfl rfl (Or.inr rfl) rfl rfl rfl (Nat.le_of_ble_eq_true rfl) (c_load (nf := nf) (by omega) a0 a1 (Nat.le_of_lt hnc) hE ha) rfl) ?_
  refine Rk.tr (F1 := (49, 14, _, _)) (x_aload_n rfl rfl rfl) ?_
  refine Rk.tr (F1 := (49, 17, _, _)) (m_get rfl rfl (Nat.le_of_ble_eq_true rfl)) ?_
  refine Rk.tr (F1 := (49, 22, _, _)) (x_ifT rfl (tg := 22) rfl (show ¬ bI (lkE L a).1 = 0 by rw [va]; decide)) ?_
  refine Rk.tr (F1 := (49, 23, _, _)) (x_aload_n rfl rfl rfl) ?_
  refine Rk.tr (F1 := (49, 26, _, _)) (m_get rfl rfl (Nat.le_of_ble_eq_true rfl)) ?_
  refine Rk.tr (F1 := (49, 27, [_, _, _, _, _], _)) (x_istore_n (i := 3) rfl (Nat.le_of_ble_eq_true rfl)) ?_
  refine Rk.tr (F1 := (49, 28, _, _)) (x_aload_n rfl rfl rfl) ?_
  refine Rk.tr (F1 := (49, 29, _, _)) (x_iload_n rfl rfl) ?_
  refine Rk.tr (F1 := (49, 30, _, _)) (x_iconst rfl) ?_
  refine Rk.tr (F1 := (49, 31, _, _)) (x_iadd rfl) ?_
  refine Rk.tr (F1 := (49, 31, _, _)) (x_top (nI_add p 5)) ?_
  refine Rk.tr (F1 := (49, 32, _, _)) (x_aload_n rfl rfl rfl) ?_
  refine Rk.tr (F1 := (49, 35, _, _)) (m_get rfl rfl (Nat.le_of_ble_eq_true rfl)) ?_
  refine Rk.tr (F1 := (49, 36, _, _)) (x_iload_n rfl rfl) ?_
  refine Rk.tr (F1 := (49, 37, _, _)) (m_iald (k := 37) (n := dp) rfl rfl rfl rfl (show dp < 14 by omega)) ?_
  refine Rk.tr (F1 := (49, 37, _, _)) (x_top (y := ch) hch) ?_
  refine Rk.tr (F1 := (49, 40, _, _)) (m_call (As := [_, _]) rfl rfl rfl (Or.inr rfl) rfl rfl rfl (Nat.le_of_ble_eq_true rfl) (c_load (nf := nf) (S := mVal S (lkE L a)) (by omega) b0 b1 (Nat.le_of_lt hnc) (hE.mono (Nat.le_refl _) (fun _ _ _ _ _ h => h)) hb) rfl) ?_
  refine Rk.tr (F1 := (49, 41, _, _)) (x_aload_n rfl rfl rfl) ?_
  refine Rk.tr (F1 := (49, 44, _, _)) (m_get rfl rfl (Nat.le_of_ble_eq_true rfl)) ?_
  refine Rk.tr (F1 := (49, 46, _, _)) (x_bipush rfl) ?_
  refine Rk.tr (F1 := (49, 49, _, _)) (x_icF rfl (tg := 51) rfl (fun z => z h13)) ?_
  refine Rk.tr (F1 := (49, 50, _, _)) (x_iconst rfl) ?_
  exact Rk.end rfl (Or.inr (Or.inl ⟨rfl, _, .int, rfl, rfl, rfl, rfl⟩))
theorem c_app {a b : Int32 × Int32} {L : Env} {ch : Int32} (hp : p + 7 ≤ 800) (hdp : dp ≤ 12) (hch : S.2 37 dp = ch) (hnc : nc < 900) (hE : En (rcl S nf) nc ch L) (a0 : S.2 5 (p + 3) = a.1) (a1 : S.2 5 (p + 3 + 1) = a.2) (b0 : S.2 5 (p + 5) = b.1) (b1 : S.2 5 (p + 5 + 1) = b.2) (ha : a.1 = 0 ∨ (a.1 = 1 ∧ a.2 ∈ L.map Prod.fst)) (hb : b.1 = 0 ∨ (b.1 = 1 ∧ b.2 ∈ L.map Prod.fst)) {k dm : Nat} {nm pr fc fr : Int32} (va : (lkE L a).1 = true) (hk : (lkE L a).2 = nI k) (hk4 : k < 400) (h35 : S.1 35 = nI (dp + 1)) (hd12 : dp < 12) (hc : S.1 26 = nI nc) (f32 : S.2 32 k = fr) (f33 : S.2 33 k = pr) (f34 : S.2 34 k = fc) (h1 : S.2 5 (p + 1) = nm) (h42 : S.2 42 3 = nI dm) (hdm : dm < 100) :
    ∃ S1, Rn E (d + 1) 49 [.ref o, .int (nI p), .int (nI dp)] (mh g o S) (some (.int 0)) (mh g o S1) ∧ S1.1 = (mEnt (mKeep (mVal S (lkE L b)) nc pr fc) (dp + 1) fr (nI nc) (nI (p + 7)) nm).1 ∧ (∀ k, k ≠ 42 → S1.2 k = (mEnt (mKeep (mVal S (lkE L b)) nc pr fc) (dp + 1) fr (nI nc) (nI (p + 7)) nm).2 k) ∧ (∀ j, j ≠ 3 → S1.2 42 j = S.2 42 j) ∧ S1.2 42 3 = nI (max dm (dp + 1)) := by
  obtain ⟨S1, r1, r2, r3, r4, r5⟩ := c_enters (E := E) (d := d) (o := o) (g := g) (S := mKeep (mVal S (lkE L b)) nc pr fc) (fr := dp + 1) (dm := dm) (a := fr) (b := nI nc) (c := nI (p + 7)) (e := nm) h35 (by omega) h42 hdm
  refine ⟨S1, Rn.of (Nat.le_of_ble_eq_true rfl) ?_, r2, r3, r4, r5⟩
  have hne : ¬ S.1 35 = 13 := fun z => by
    have e : nI (dp + 1) = nI 13 := h35.symm.trans z
    exact absurd ((nI_eq (by omega) (by decide)).mp e) (by omega)
  rw [← mVal_mVal (v := lkE L a)] at r1
  refine Rk.tr (F1 := (49, 1, _, _)) (x_aload_n rfl rfl rfl) ?_
  refine Rk.tr (F1 := (49, 2, _, _)) (x_iload_n rfl rfl) ?_
  refine Rk.tr (F1 := (49, 3, _, _)) (x_iconst rfl) ?_
  refine Rk.tr (F1 := (49, 4, _, _)) (x_iadd rfl) ?_
  refine Rk.tr (F1 := (49, 4, _, _)) (x_top (nI_add p 3)) ?_
  refine Rk.tr (F1 := (49, 5, _, _)) (x_aload_n rfl rfl rfl) ?_
  refine Rk.tr (F1 := (49, 8, _, _)) (m_get rfl rfl (Nat.le_of_ble_eq_true rfl)) ?_
  refine Rk.tr (F1 := (49, 9, _, _)) (x_iload_n rfl rfl) ?_
  refine Rk.tr (F1 := (49, 10, _, _)) (m_iald (k := 37) (n := dp) rfl rfl rfl rfl (show dp < 14 by omega)) ?_
  refine Rk.tr (F1 := (49, 10, _, _)) (x_top (y := ch) hch) ?_
  refine Rk.tr (F1 := (49, 13, _, _)) (m_call (As := [_, _]) rfl rfl rfl (Or.inr rfl) rfl rfl rfl (Nat.le_of_ble_eq_true rfl) (c_load (nf := nf) (by omega) a0 a1 (Nat.le_of_lt hnc) hE ha) rfl) ?_
  refine Rk.tr (F1 := (49, 14, _, _)) (x_aload_n rfl rfl rfl) ?_
  refine Rk.tr (F1 := (49, 17, _, _)) (m_get rfl rfl (Nat.le_of_ble_eq_true rfl)) ?_
  refine Rk.tr (F1 := (49, 22, _, _)) (x_ifT rfl (tg := 22) rfl (show ¬ bI (lkE L a).1 = 0 by rw [va]; decide)) ?_
  refine Rk.tr (F1 := (49, 23, _, _)) (x_aload_n rfl rfl rfl) ?_
  refine Rk.tr (F1 := (49, 26, _, _)) (m_get rfl rfl (Nat.le_of_ble_eq_true rfl)) ?_
  refine Rk.tr (F1 := (49, 26, _, _)) (x_top (y := nI k) hk) ?_
  refine Rk.tr (F1 := (49, 27, [_, _, _, _, _], _)) (x_istore_n (i := 3) rfl (Nat.le_of_ble_eq_true rfl)) ?_
  refine Rk.tr (F1 := (49, 28, _, _)) (x_aload_n rfl rfl rfl) ?_
  refine Rk.tr (F1 := (49, 29, _, _)) (x_iload_n rfl rfl) ?_
  refine Rk.tr (F1 := (49, 30, _, _)) (x_iconst rfl) ?_
  refine Rk.tr (F1 := (49, 31, _, _)) (x_iadd rfl) ?_
  refine Rk.tr (F1 := (49, 31, _, _)) (x_top (nI_add p 5)) ?_
  refine Rk.tr (F1 := (49, 32, _, _)) (x_aload_n rfl rfl rfl) ?_
  refine Rk.tr (F1 := (49, 35, _, _)) (m_get rfl rfl (Nat.le_of_ble_eq_true rfl)) ?_
  refine Rk.tr (F1 := (49, 36, _, _)) (x_iload_n rfl rfl) ?_
  refine Rk.tr (F1 := (49, 37, _, _)) (m_iald (k := 37) (n := dp) rfl rfl rfl rfl (show dp < 14 by omega)) ?_
  refine Rk.tr (F1 := (49, 37, _, _)) (x_top (y := ch) hch) ?_
  refine Rk.tr (F1 := (49, 40, _, _)) (m_call (As := [_, _]) rfl rfl rfl (Or.inr rfl) rfl rfl rfl (Nat.le_of_ble_eq_true rfl) (c_load (nf := nf) (S := mVal S (lkE L a)) (by omega) b0 b1 (Nat.le_of_lt hnc) (hE.mono (Nat.le_refl _) (fun _ _ _ _ _ h => h)) hb) rfl) ?_
  refine Rk.tr (F1 := (49, 41, _, _)) (x_aload_n rfl rfl rfl) ?_
  refine Rk.tr (F1 := (49, 44, _, _)) (m_get rfl rfl (Nat.le_of_ble_eq_true rfl)) ?_
  refine Rk.tr (F1 := (49, 46, _, _)) (x_bipush rfl) ?_
  refine Rk.tr (F1 := (49, 51, _, _)) (x_icT rfl (tg := 51) rfl hne) ?_
  refine Rk.tr (F1 := (49, 52, _, _)) (x_aload_n rfl rfl rfl) ?_
  refine Rk.tr (F1 := (49, 53, _, _)) (x_aload_n rfl rfl rfl) ?_
  refine Rk.tr (F1 := (49, 56, _, _)) (m_get rfl rfl (Nat.le_of_ble_eq_true rfl)) ?_
  refine Rk.tr (F1 := (49, 57, _, _)) (x_iload_n rfl rfl) ?_
  refine Rk.tr (F1 := (49, 58, _, _)) (m_iald (k := 33) (n := k) rfl rfl rfl rfl hk4) ?_
  refine Rk.tr (F1 := (49, 58, _, _)) (x_top (y := pr) f33) ?_
  refine Rk.tr (F1 := (49, 59, _, _)) (x_aload_n rfl rfl rfl) ?_
  refine Rk.tr (F1 := (49, 62, _, _)) (m_get rfl rfl (Nat.le_of_ble_eq_true rfl)) ?_
  refine Rk.tr (F1 := (49, 63, _, _)) (x_iload_n rfl rfl) ?_
  refine Rk.tr (F1 := (49, 64, _, _)) (m_iald (k := 34) (n := k) rfl rfl rfl rfl hk4) ?_
  refine Rk.tr (F1 := (49, 64, _, _)) (x_top (y := fc) f34) ?_
  refine Rk.tr (F1 := (49, 67, _, _)) (m_call (As := [_, _]) rfl rfl rfl (Or.inr rfl) rfl rfl rfl (Nat.le_of_ble_eq_true rfl) (c_keep (b := (lkE L b).1) hc hnc rfl) rfl) ?_
  refine Rk.tr (F1 := (49, 69, [_, _, _, _, _], _)) (x_istore (i := 4) rfl (Nat.le_of_ble_eq_true rfl)) ?_
  refine Rk.tr (F1 := (49, 70, _, _)) (x_aload_n rfl rfl rfl) ?_
  refine Rk.tr (F1 := (49, 71, _, _)) (x_aload_n rfl rfl rfl) ?_
  refine Rk.tr (F1 := (49, 74, _, _)) (m_get rfl rfl (Nat.le_of_ble_eq_true rfl)) ?_
  refine Rk.tr (F1 := (49, 75, _, _)) (x_iload_n rfl rfl) ?_
  refine Rk.tr (F1 := (49, 76, _, _)) (m_iald (k := 32) (n := k) rfl rfl rfl rfl hk4) ?_
  refine Rk.tr (F1 := (49, 76, _, _)) (x_top (y := fr) f32) ?_
  refine Rk.tr (F1 := (49, 78, _, _)) (x_iload rfl rfl) ?_
  refine Rk.tr (F1 := (49, 79, _, _)) (x_iload_n rfl rfl) ?_
  refine Rk.tr (F1 := (49, 81, _, _)) (x_bipush rfl) ?_
  refine Rk.tr (F1 := (49, 82, _, _)) (x_iadd rfl) ?_
  refine Rk.tr (F1 := (49, 82, _, _)) (x_top (y := nI (p + 7)) (nI_add p 7)) ?_
  refine Rk.tr (F1 := (49, 83, _, _)) (x_aload_n rfl rfl rfl) ?_
  refine Rk.tr (F1 := (49, 86, _, _)) (m_get rfl rfl (Nat.le_of_ble_eq_true rfl)) ?_
  refine Rk.tr (F1 := (49, 87, _, _)) (x_iload_n rfl rfl) ?_
  refine Rk.tr (F1 := (49, 88, _, _)) (x_iconst rfl) ?_
  refine Rk.tr (F1 := (49, 89, _, _)) (x_iadd rfl) ?_
  refine Rk.tr (F1 := (49, 90, _, _)) (m_iald (k := 5) (n := p + 1) rfl rfl rfl (nI_1 p) (show p + 1 < 800 by omega)) ?_
  refine Rk.tr (F1 := (49, 90, _, _)) (x_top (y := nm) h1) ?_
  refine Rk.tr (F1 := (49, 93, _, _)) (m_call (As := [_, _, _, _]) rfl rfl rfl (Or.inr rfl) rfl rfl rfl (Nat.le_of_ble_eq_true rfl) r1 rfl) ?_
  exact Rk.end rfl (Or.inr (Or.inl ⟨rfl, _, .int, rfl, rfl, rfl, rfl⟩))
theorem c_cho2 {a : Int32 × Int32} {L : Env} {ch : Int32} {Q1 Q2 : List It} (hp : p + 5 + (tsum Q1 + tsum Q2) ≤ 800) (hdp : dp ≤ 12) (hch : S.2 37 dp = ch) (hnc : nc < 900) (hE : En (rcl S nf) nc ch L) (a0 : S.2 5 (p + 3) = a.1) (a1 : S.2 5 (p + 3 + 1) = a.2) (ha : a.1 = 0 ∨ (a.1 = 1 ∧ a.2 ∈ L.map Prod.fst)) (va : (lkE L a).1 = true) :
    Rn E (d + 2) 51 [.ref o, .int (nI p), .int (nI dp)] (mh g o S) (some (.int 2)) (mh g o (mVal S (lkE L a))) := by
  refine Rn.of (Nat.le_of_ble_eq_true rfl) ?_
  refine Rk.tr (F1 := (51, 1, _, _)) (x_aload_n rfl rfl rfl) ?_
  refine Rk.tr (F1 := (51, 2, _, _)) (x_iload_n rfl rfl) ?_
  refine Rk.tr (F1 := (51, 3, _, _)) (x_iconst rfl) ?_
  refine Rk.tr (F1 := (51, 4, _, _)) (x_iadd rfl) ?_
  refine Rk.tr (F1 := (51, 4, _, _)) (x_top (nI_add p 3)) ?_
  refine Rk.tr (F1 := (51, 5, _, _)) (x_aload_n rfl rfl rfl) ?_
  refine Rk.tr (F1 := (51, 8, _, _)) (m_get rfl rfl (Nat.le_of_ble_eq_true rfl)) ?_
  refine Rk.tr (F1 := (51, 9, _, _)) (x_iload_n rfl rfl) ?_
  refine Rk.tr (F1 := (51, 10, _, _)) (m_iald (k := 37) (n := dp) rfl rfl rfl rfl (show dp < 14 by omega)) ?_
  refine Rk.tr (F1 := (51, 10, _, _)) (x_top (y := ch) hch) ?_
  refine Rk.tr (F1 := (51, 13, _, _)) (m_call (As := [_, _]) rfl rfl rfl (Or.inr rfl) rfl rfl rfl (Nat.le_of_ble_eq_true rfl) (c_load (nf := nf) (by omega) a0 a1 (Nat.le_of_lt hnc) hE ha) rfl) ?_
  refine Rk.tr (F1 := (51, 14, _, _)) (x_aload_n rfl rfl rfl) ?_
  refine Rk.tr (F1 := (51, 17, _, _)) (m_get rfl rfl (Nat.le_of_ble_eq_true rfl)) ?_
  refine Rk.tr (F1 := (51, 20, _, _)) (x_ifF rfl (tg := 22) rfl (show ¬ bI (lkE L a).1 = 0 by rw [va]; decide)) ?_
  refine Rk.tr (F1 := (51, 21, _, _)) (x_iconst rfl) ?_
  exact Rk.end rfl (Or.inr (Or.inl ⟨rfl, _, .int, rfl, rfl, rfl, rfl⟩))
theorem c_cho4 {a : Int32 × Int32} {L : Env} {ch : Int32} {Q1 Q2 : List It} (hp : p + 5 + (tsum Q1 + tsum Q2) ≤ 800) (hdp : dp ≤ 12) (hch : S.2 37 dp = ch) (hnc : nc < 900) (hE : En (rcl S nf) nc ch L) (a0 : S.2 5 (p + 3) = a.1) (a1 : S.2 5 (p + 3 + 1) = a.2) (ha : a.1 = 0 ∨ (a.1 = 1 ∧ a.2 ∈ L.map Prod.fst)) (va : (lkE L a).1 = false) {nm : Int32} (h1 : S.2 5 (p + 1) = nm) (t1 : TokAt (S.2 5) (p + 5) Q1) (t2 : TokAt (S.2 5) (p + 5 + tsum Q1) Q2) (k1 : closes 1 Q1) (k2 : closes 1 Q2) (q1 : 3 ≤ tsum Q1) (q2 : 3 ≤ tsum Q2) (h13 : S.1 35 = 13) :
    Rn E (d + 2) 51 [.ref o, .int (nI p), .int (nI dp)] (mh g o S) (some (.int 4)) (mh g o (mVal S (lkE L a))) := by
  refine Rn.of (Nat.le_of_ble_eq_true rfl) ?_
  by_cases hz : (lkE L a).2 = 0
  · refine Rk.tr (F1 := (51, 1, _, _)) (x_aload_n rfl rfl rfl) ?_
    refine Rk.tr (F1 := (51, 2, _, _)) (x_iload_n rfl rfl) ?_
    refine Rk.tr (F1 := (51, 3, _, _)) (x_iconst rfl) ?_
    refine Rk.tr (F1 := (51, 4, _, _)) (x_iadd rfl) ?_
    refine Rk.tr (F1 := (51, 4, _, _)) (x_top (nI_add p 3)) ?_
    refine Rk.tr (F1 := (51, 5, _, _)) (x_aload_n rfl rfl rfl) ?_
    refine Rk.tr (F1 := (51, 8, _, _)) (m_get rfl rfl (Nat.le_of_ble_eq_true rfl)) ?_
    refine Rk.tr (F1 := (51, 9, _, _)) (x_iload_n rfl rfl) ?_
    refine Rk.tr (F1 := (51, 10, _, _)) (m_iald (k := 37) (n := dp) rfl rfl rfl rfl (show dp < 14 by omega)) ?_
    refine Rk.tr (F1 := (51, 10, _, _)) (x_top (y := ch) hch) ?_
    refine Rk.tr (F1 := (51, 13, _, _)) (m_call (As := [_, _]) rfl rfl rfl (Or.inr rfl) rfl rfl rfl (Nat.le_of_ble_eq_true rfl) (c_load (nf := nf) (by omega) a0 a1 (Nat.le_of_lt hnc) hE ha) rfl) ?_
    refine Rk.tr (F1 := (51, 14, _, _)) (x_aload_n rfl rfl rfl) ?_
    refine Rk.tr (F1 := (51, 17, _, _)) (m_get rfl rfl (Nat.le_of_ble_eq_true rfl)) ?_
    refine Rk.tr (F1 := (51, 22, _, _)) (x_ifT rfl (tg := 22) rfl (show bI (lkE L a).1 = 0 by rw [va]; rfl)) ?_
    refine Rk.tr (F1 := (51, 23, _, _)) (x_aload_n rfl rfl rfl) ?_
    refine Rk.tr (F1 := (51, 24, _, _)) (x_iload_n rfl rfl) ?_
    refine Rk.tr (F1 := (51, 25, _, _)) (x_iconst rfl) ?_
    refine Rk.tr (F1 := (51, 26, _, _)) (x_iadd rfl) ?_
    refine Rk.tr (F1 := (51, 26, _, _)) (x_top (nI_add p 5)) ?_
    refine Rk.tr (F1 := (51, 29, _, _)) (m_call (As := [_]) rfl rfl rfl (Or.inr rfl) rfl rfl rfl (Nat.le_of_ble_eq_true rfl) (c_rowEnd (Q := Q1) t1 (by omega) k1) rfl) ?_
    refine Rk.tr (F1 := (51, 30, [_, _, _, _, _], _)) (x_istore_n (i := 3) rfl (Nat.le_of_ble_eq_true rfl)) ?_
    refine Rk.tr (F1 := (51, 31, _, _)) (x_aload_n rfl rfl rfl) ?_
    refine Rk.tr (F1 := (51, 32, _, _)) (x_iload_n rfl rfl) ?_
    refine Rk.tr (F1 := (51, 33, _, _)) (x_iconst rfl) ?_
    refine Rk.tr (F1 := (51, 34, _, _)) (x_iadd rfl) ?_
    refine Rk.tr (F1 := (51, 34, _, _)) (x_top (y := nI (p + 5 + tsum Q1)) (by show nI (p + 5 + tsum Q1 - 3) + nI 3 = _; rw [nI_add, Nat.sub_add_cancel (by omega)])) ?_
    refine Rk.tr (F1 := (51, 37, _, _)) (m_call (As := [_]) rfl rfl rfl (Or.inr rfl) rfl rfl rfl (Nat.le_of_ble_eq_true rfl) (c_rowEnd (Q := Q2) t2 (by omega) k2) rfl) ?_
    refine Rk.tr (F1 := (51, 38, _, _)) (x_iconst rfl) ?_
    refine Rk.tr (F1 := (51, 39, _, _)) (x_iadd rfl) ?_
    refine Rk.tr (F1 := (51, 39, _, _)) (x_top (y := nI (p + 5 + tsum Q1 + tsum Q2)) (by show nI (p + 5 + tsum Q1 + tsum Q2 - 3) + nI 3 = _; rw [nI_add, Nat.sub_add_cancel (by omega)])) ?_
    refine Rk.tr (F1 := (51, 41, [_, _, _, _, _], _)) (x_istore (i := 4) rfl (Nat.le_of_ble_eq_true rfl)) ?_
    refine Rk.tr (F1 := (51, 42, _, _)) (x_aload_n rfl rfl rfl) ?_
    refine Rk.tr (F1 := (51, 43, _, _)) (x_aload_n rfl rfl rfl) ?_
    refine Rk.tr (F1 := (51, 46, _, _)) (m_get rfl rfl (Nat.le_of_ble_eq_true rfl)) ?_
    refine Rk.tr (F1 := (51, 49, _, _)) (x_ifF rfl (tg := 55) rfl (fun z => z hz)) ?_
    refine Rk.tr (F1 := (51, 50, _, _)) (x_iload_n rfl rfl) ?_
    refine Rk.tr (F1 := (51, 51, _, _)) (x_iconst rfl) ?_
    refine Rk.tr (F1 := (51, 52, _, _)) (x_iadd rfl) ?_
    refine Rk.tr (F1 := (51, 52, _, _)) (x_top (y := nI (p + 5 + tsum Q1)) (by show nI (p + 5 + tsum Q1 - 3) + nI 3 = _; rw [nI_add, Nat.sub_add_cancel (by omega)])) ?_
    refine Rk.tr (F1 := (51, 58, _, _)) (x_goto rfl rfl) ?_
    refine Rk.tr (F1 := (51, 59, _, _)) (x_aload_n rfl rfl rfl) ?_
    refine Rk.tr (F1 := (51, 62, _, _)) (m_get rfl rfl (Nat.le_of_ble_eq_true rfl)) ?_
    refine Rk.tr (F1 := (51, 63, _, _)) (x_iload_n rfl rfl) ?_
    refine Rk.tr (F1 := (51, 64, _, _)) (m_iald (k := 37) (n := dp) rfl rfl rfl rfl (show dp < 14 by omega)) ?_
    refine Rk.tr (F1 := (51, 64, _, _)) (x_top (y := ch) hch) ?_
    refine Rk.tr (F1 := (51, 66, _, _)) (x_iload rfl rfl) ?_
    refine Rk.tr (F1 := (51, 67, _, _)) (x_aload_n rfl rfl rfl) ?_
    refine Rk.tr (F1 := (51, 70, _, _)) (m_get rfl rfl (Nat.le_of_ble_eq_true rfl)) ?_
    refine Rk.tr (F1 := (51, 71, _, _)) (x_iload_n rfl rfl) ?_
    refine Rk.tr (F1 := (51, 72, _, _)) (x_iconst rfl) ?_
    refine Rk.tr (F1 := (51, 73, _, _)) (x_iadd rfl) ?_
    refine Rk.tr (F1 := (51, 74, _, _)) (m_iald (k := 5) (n := p + 1) rfl rfl rfl (nI_1 p) (show p + 1 < 800 by omega)) ?_
    refine Rk.tr (F1 := (51, 74, _, _)) (x_top (y := nm) h1) ?_
    refine Rk.tr (F1 := (51, 77, _, _)) (m_call (As := [_, _, _, _]) rfl rfl rfl (Or.inr rfl) rfl rfl rfl (Nat.le_of_ble_eq_true rfl) (c_enters4 h13) rfl) ?_
    exact Rk.end rfl (Or.inr (Or.inl ⟨rfl, _, .int, rfl, rfl, rfl, rfl⟩))
  · refine Rk.tr (F1 := (51, 1, _, _)) (x_aload_n rfl rfl rfl) ?_
    refine Rk.tr (F1 := (51, 2, _, _)) (x_iload_n rfl rfl) ?_
    refine Rk.tr (F1 := (51, 3, _, _)) (x_iconst rfl) ?_
    refine Rk.tr (F1 := (51, 4, _, _)) (x_iadd rfl) ?_
    refine Rk.tr (F1 := (51, 4, _, _)) (x_top (nI_add p 3)) ?_
    refine Rk.tr (F1 := (51, 5, _, _)) (x_aload_n rfl rfl rfl) ?_
    refine Rk.tr (F1 := (51, 8, _, _)) (m_get rfl rfl (Nat.le_of_ble_eq_true rfl)) ?_
    refine Rk.tr (F1 := (51, 9, _, _)) (x_iload_n rfl rfl) ?_
    refine Rk.tr (F1 := (51, 10, _, _)) (m_iald (k := 37) (n := dp) rfl rfl rfl rfl (show dp < 14 by omega)) ?_
    refine Rk.tr (F1 := (51, 10, _, _)) (x_top (y := ch) hch) ?_
    refine Rk.tr (F1 := (51, 13, _, _)) (m_call (As := [_, _]) rfl rfl rfl (Or.inr rfl) rfl rfl rfl (Nat.le_of_ble_eq_true rfl) (c_load (nf := nf) (by omega) a0 a1 (Nat.le_of_lt hnc) hE ha) rfl) ?_
    refine Rk.tr (F1 := (51, 14, _, _)) (x_aload_n rfl rfl rfl) ?_
    refine Rk.tr (F1 := (51, 17, _, _)) (m_get rfl rfl (Nat.le_of_ble_eq_true rfl)) ?_
    refine Rk.tr (F1 := (51, 22, _, _)) (x_ifT rfl (tg := 22) rfl (show bI (lkE L a).1 = 0 by rw [va]; rfl)) ?_
    refine Rk.tr (F1 := (51, 23, _, _)) (x_aload_n rfl rfl rfl) ?_
    refine Rk.tr (F1 := (51, 24, _, _)) (x_iload_n rfl rfl) ?_
    refine Rk.tr (F1 := (51, 25, _, _)) (x_iconst rfl) ?_
    refine Rk.tr (F1 := (51, 26, _, _)) (x_iadd rfl) ?_
    refine Rk.tr (F1 := (51, 26, _, _)) (x_top (nI_add p 5)) ?_
    refine Rk.tr (F1 := (51, 29, _, _)) (m_call (As := [_]) rfl rfl rfl (Or.inr rfl) rfl rfl rfl (Nat.le_of_ble_eq_true rfl) (c_rowEnd (Q := Q1) t1 (by omega) k1) rfl) ?_
    refine Rk.tr (F1 := (51, 30, [_, _, _, _, _], _)) (x_istore_n (i := 3) rfl (Nat.le_of_ble_eq_true rfl)) ?_
    refine Rk.tr (F1 := (51, 31, _, _)) (x_aload_n rfl rfl rfl) ?_
    refine Rk.tr (F1 := (51, 32, _, _)) (x_iload_n rfl rfl) ?_
    refine Rk.tr (F1 := (51, 33, _, _)) (x_iconst rfl) ?_
    refine Rk.tr (F1 := (51, 34, _, _)) (x_iadd rfl) ?_
    refine Rk.tr (F1 := (51, 34, _, _)) (x_top (y := nI (p + 5 + tsum Q1)) (by show nI (p + 5 + tsum Q1 - 3) + nI 3 = _; rw [nI_add, Nat.sub_add_cancel (by omega)])) ?_
    refine Rk.tr (F1 := (51, 37, _, _)) (m_call (As := [_]) rfl rfl rfl (Or.inr rfl) rfl rfl rfl (Nat.le_of_ble_eq_true rfl) (c_rowEnd (Q := Q2) t2 (by omega) k2) rfl) ?_
    refine Rk.tr (F1 := (51, 38, _, _)) (x_iconst rfl) ?_
    refine Rk.tr (F1 := (51, 39, _, _)) (x_iadd rfl) ?_
    refine Rk.tr (F1 := (51, 39, _, _)) (x_top (y := nI (p + 5 + tsum Q1 + tsum Q2)) (by show nI (p + 5 + tsum Q1 + tsum Q2 - 3) + nI 3 = _; rw [nI_add, Nat.sub_add_cancel (by omega)])) ?_
    refine Rk.tr (F1 := (51, 41, [_, _, _, _, _], _)) (x_istore (i := 4) rfl (Nat.le_of_ble_eq_true rfl)) ?_
    refine Rk.tr (F1 := (51, 42, _, _)) (x_aload_n rfl rfl rfl) ?_
    refine Rk.tr (F1 := (51, 43, _, _)) (x_aload_n rfl rfl rfl) ?_
    refine Rk.tr (F1 := (51, 46, _, _)) (m_get rfl rfl (Nat.le_of_ble_eq_true rfl)) ?_
    refine Rk.tr (F1 := (51, 55, _, _)) (x_ifT rfl (tg := 55) rfl hz) ?_
    refine Rk.tr (F1 := (51, 56, _, _)) (x_iload_n rfl rfl) ?_
    refine Rk.tr (F1 := (51, 57, _, _)) (x_iconst rfl) ?_
    refine Rk.tr (F1 := (51, 58, _, _)) (x_iadd rfl) ?_
    refine Rk.tr (F1 := (51, 59, _, _)) (x_aload_n rfl rfl rfl) ?_
    refine Rk.tr (F1 := (51, 62, _, _)) (m_get rfl rfl (Nat.le_of_ble_eq_true rfl)) ?_
    refine Rk.tr (F1 := (51, 63, _, _)) (x_iload_n rfl rfl) ?_
    refine Rk.tr (F1 := (51, 64, _, _)) (m_iald (k := 37) (n := dp) rfl rfl rfl rfl (show dp < 14 by omega)) ?_
    refine Rk.tr (F1 := (51, 64, _, _)) (x_top (y := ch) hch) ?_
    refine Rk.tr (F1 := (51, 66, _, _)) (x_iload rfl rfl) ?_
    refine Rk.tr (F1 := (51, 67, _, _)) (x_aload_n rfl rfl rfl) ?_
    refine Rk.tr (F1 := (51, 70, _, _)) (m_get rfl rfl (Nat.le_of_ble_eq_true rfl)) ?_
    refine Rk.tr (F1 := (51, 71, _, _)) (x_iload_n rfl rfl) ?_
    refine Rk.tr (F1 := (51, 72, _, _)) (x_iconst rfl) ?_
    refine Rk.tr (F1 := (51, 73, _, _)) (x_iadd rfl) ?_
    refine Rk.tr (F1 := (51, 74, _, _)) (m_iald (k := 5) (n := p + 1) rfl rfl rfl (nI_1 p) (show p + 1 < 800 by omega)) ?_
    refine Rk.tr (F1 := (51, 74, _, _)) (x_top (y := nm) h1) ?_
    refine Rk.tr (F1 := (51, 77, _, _)) (m_call (As := [_, _, _, _]) rfl rfl rfl (Or.inr rfl) rfl rfl rfl (Nat.le_of_ble_eq_true rfl) (c_enters4 h13) rfl) ?_
    exact Rk.end rfl (Or.inr (Or.inl ⟨rfl, _, .int, rfl, rfl, rfl, rfl⟩))
theorem c_cho {a : Int32 × Int32} {L : Env} {ch : Int32} {Q1 Q2 : List It} (hp : p + 5 + (tsum Q1 + tsum Q2) ≤ 800) (hdp : dp ≤ 12) (hch : S.2 37 dp = ch) (hnc : nc < 900) (hE : En (rcl S nf) nc ch L) (a0 : S.2 5 (p + 3) = a.1) (a1 : S.2 5 (p + 3 + 1) = a.2) (ha : a.1 = 0 ∨ (a.1 = 1 ∧ a.2 ∈ L.map Prod.fst)) (va : (lkE L a).1 = false) {nm : Int32} (h1 : S.2 5 (p + 1) = nm) (t1 : TokAt (S.2 5) (p + 5) Q1) (t2 : TokAt (S.2 5) (p + 5 + tsum Q1) Q2) (k1 : closes 1 Q1) (k2 : closes 1 Q2) (q1 : 3 ≤ tsum Q1) (q2 : 3 ≤ tsum Q2) {dm : Nat} (h35 : S.1 35 = nI (dp + 1)) (hd12 : dp < 12) (h42 : S.2 42 3 = nI dm) (hdm : dm < 100) :
    ∃ S1, Rn E (d + 2) 51 [.ref o, .int (nI p), .int (nI dp)] (mh g o S) (some (.int 0)) (mh g o S1) ∧ S1.1 = (mEnt (mVal S (lkE L a)) (dp + 1) (nI (if (lkE L a).2 = 0 then p + 5 + tsum Q1 else p + 5)) ch (nI (p + 5 + tsum Q1 + tsum Q2)) nm).1 ∧ (∀ k, k ≠ 42 → S1.2 k = (mEnt (mVal S (lkE L a)) (dp + 1) (nI (if (lkE L a).2 = 0 then p + 5 + tsum Q1 else p + 5)) ch (nI (p + 5 + tsum Q1 + tsum Q2)) nm).2 k) ∧ (∀ j, j ≠ 3 → S1.2 42 j = S.2 42 j) ∧ S1.2 42 3 = nI (max dm (dp + 1)) := by
  obtain ⟨S1, r1, r2, r3, r4, r5⟩ := c_enters (E := E) (d := d + 1) (o := o) (g := g) (S := mVal S (lkE L a)) (fr := dp + 1) (dm := dm) (a := nI (if (lkE L a).2 = 0 then p + 5 + tsum Q1 else p + 5)) (b := ch) (c := nI (p + 5 + tsum Q1 + tsum Q2)) (e := nm) h35 (by omega) h42 hdm
  refine ⟨S1, Rn.of (Nat.le_of_ble_eq_true rfl) ?_, r2, r3, r4, r5⟩
  by_cases hz : (lkE L a).2 = 0
  · rw [if_pos hz] at r1
    refine Rk.tr (F1 := (51, 1, _, _)) (x_aload_n rfl rfl rfl) ?_
    refine Rk.tr (F1 := (51, 2, _, _)) (x_iload_n rfl rfl) ?_
    refine Rk.tr (F1 := (51, 3, _, _)) (x_iconst rfl) ?_
    refine Rk.tr (F1 := (51, 4, _, _)) (x_iadd rfl) ?_
    refine Rk.tr (F1 := (51, 4, _, _)) (x_top (nI_add p 3)) ?_
    refine Rk.tr (F1 := (51, 5, _, _)) (x_aload_n rfl rfl rfl) ?_
    refine Rk.tr (F1 := (51, 8, _, _)) (m_get rfl rfl (Nat.le_of_ble_eq_true rfl)) ?_
    refine Rk.tr (F1 := (51, 9, _, _)) (x_iload_n rfl rfl) ?_
    refine Rk.tr (F1 := (51, 10, _, _)) (m_iald (k := 37) (n := dp) rfl rfl rfl rfl (show dp < 14 by omega)) ?_
    refine Rk.tr (F1 := (51, 10, _, _)) (x_top (y := ch) hch) ?_
    refine Rk.tr (F1 := (51, 13, _, _)) (m_call (As := [_, _]) rfl rfl rfl (Or.inr rfl) rfl rfl rfl (Nat.le_of_ble_eq_true rfl) (c_load (nf := nf) (by omega) a0 a1 (Nat.le_of_lt hnc) hE ha) rfl) ?_
    refine Rk.tr (F1 := (51, 14, _, _)) (x_aload_n rfl rfl rfl) ?_
    refine Rk.tr (F1 := (51, 17, _, _)) (m_get rfl rfl (Nat.le_of_ble_eq_true rfl)) ?_
    refine Rk.tr (F1 := (51, 22, _, _)) (x_ifT rfl (tg := 22) rfl (show bI (lkE L a).1 = 0 by rw [va]; rfl)) ?_
    refine Rk.tr (F1 := (51, 23, _, _)) (x_aload_n rfl rfl rfl) ?_
    refine Rk.tr (F1 := (51, 24, _, _)) (x_iload_n rfl rfl) ?_
    refine Rk.tr (F1 := (51, 25, _, _)) (x_iconst rfl) ?_
    refine Rk.tr (F1 := (51, 26, _, _)) (x_iadd rfl) ?_
    refine Rk.tr (F1 := (51, 26, _, _)) (x_top (nI_add p 5)) ?_
    refine Rk.tr (F1 := (51, 29, _, _)) (m_call (As := [_]) rfl rfl rfl (Or.inr rfl) rfl rfl rfl (Nat.le_of_ble_eq_true rfl) (c_rowEnd (Q := Q1) t1 (by omega) k1) rfl) ?_
    refine Rk.tr (F1 := (51, 30, [_, _, _, _, _], _)) (x_istore_n (i := 3) rfl (Nat.le_of_ble_eq_true rfl)) ?_
    refine Rk.tr (F1 := (51, 31, _, _)) (x_aload_n rfl rfl rfl) ?_
    refine Rk.tr (F1 := (51, 32, _, _)) (x_iload_n rfl rfl) ?_
    refine Rk.tr (F1 := (51, 33, _, _)) (x_iconst rfl) ?_
    refine Rk.tr (F1 := (51, 34, _, _)) (x_iadd rfl) ?_
    refine Rk.tr (F1 := (51, 34, _, _)) (x_top (y := nI (p + 5 + tsum Q1)) (by show nI (p + 5 + tsum Q1 - 3) + nI 3 = _; rw [nI_add, Nat.sub_add_cancel (by omega)])) ?_
    refine Rk.tr (F1 := (51, 37, _, _)) (m_call (As := [_]) rfl rfl rfl (Or.inr rfl) rfl rfl rfl (Nat.le_of_ble_eq_true rfl) (c_rowEnd (Q := Q2) t2 (by omega) k2) rfl) ?_
    refine Rk.tr (F1 := (51, 38, _, _)) (x_iconst rfl) ?_
    refine Rk.tr (F1 := (51, 39, _, _)) (x_iadd rfl) ?_
    refine Rk.tr (F1 := (51, 39, _, _)) (x_top (y := nI (p + 5 + tsum Q1 + tsum Q2)) (by show nI (p + 5 + tsum Q1 + tsum Q2 - 3) + nI 3 = _; rw [nI_add, Nat.sub_add_cancel (by omega)])) ?_
    refine Rk.tr (F1 := (51, 41, [_, _, _, _, _], _)) (x_istore (i := 4) rfl (Nat.le_of_ble_eq_true rfl)) ?_
    refine Rk.tr (F1 := (51, 42, _, _)) (x_aload_n rfl rfl rfl) ?_
    refine Rk.tr (F1 := (51, 43, _, _)) (x_aload_n rfl rfl rfl) ?_
    refine Rk.tr (F1 := (51, 46, _, _)) (m_get rfl rfl (Nat.le_of_ble_eq_true rfl)) ?_
    refine Rk.tr (F1 := (51, 49, _, _)) (x_ifF rfl (tg := 55) rfl (fun z => z hz)) ?_
    refine Rk.tr (F1 := (51, 50, _, _)) (x_iload_n rfl rfl) ?_
    refine Rk.tr (F1 := (51, 51, _, _)) (x_iconst rfl) ?_
    refine Rk.tr (F1 := (51, 52, _, _)) (x_iadd rfl) ?_
    refine Rk.tr (F1 := (51, 52, _, _)) (x_top (y := nI (p + 5 + tsum Q1)) (by show nI (p + 5 + tsum Q1 - 3) + nI 3 = _; rw [nI_add, Nat.sub_add_cancel (by omega)])) ?_
    refine Rk.tr (F1 := (51, 58, _, _)) (x_goto rfl rfl) ?_
    refine Rk.tr (F1 := (51, 59, _, _)) (x_aload_n rfl rfl rfl) ?_
    refine Rk.tr (F1 := (51, 62, _, _)) (m_get rfl rfl (Nat.le_of_ble_eq_true rfl)) ?_
    refine Rk.tr (F1 := (51, 63, _, _)) (x_iload_n rfl rfl) ?_
    refine Rk.tr (F1 := (51, 64, _, _)) (m_iald (k := 37) (n := dp) rfl rfl rfl rfl (show dp < 14 by omega)) ?_
    refine Rk.tr (F1 := (51, 64, _, _)) (x_top (y := ch) hch) ?_
    refine Rk.tr (F1 := (51, 66, _, _)) (x_iload rfl rfl) ?_
    refine Rk.tr (F1 := (51, 67, _, _)) (x_aload_n rfl rfl rfl) ?_
    refine Rk.tr (F1 := (51, 70, _, _)) (m_get rfl rfl (Nat.le_of_ble_eq_true rfl)) ?_
    refine Rk.tr (F1 := (51, 71, _, _)) (x_iload_n rfl rfl) ?_
    refine Rk.tr (F1 := (51, 72, _, _)) (x_iconst rfl) ?_
    refine Rk.tr (F1 := (51, 73, _, _)) (x_iadd rfl) ?_
    refine Rk.tr (F1 := (51, 74, _, _)) (m_iald (k := 5) (n := p + 1) rfl rfl rfl (nI_1 p) (show p + 1 < 800 by omega)) ?_
    refine Rk.tr (F1 := (51, 74, _, _)) (x_top (y := nm) h1) ?_
    refine Rk.tr (F1 := (51, 77, _, _)) (m_call (As := [_, _, _, _]) rfl rfl rfl (Or.inr rfl) rfl rfl rfl (Nat.le_of_ble_eq_true rfl) r1 rfl) ?_
    exact Rk.end rfl (Or.inr (Or.inl ⟨rfl, _, .int, rfl, rfl, rfl, rfl⟩))
  · rw [if_neg hz] at r1
    refine Rk.tr (F1 := (51, 1, _, _)) (x_aload_n rfl rfl rfl) ?_
    refine Rk.tr (F1 := (51, 2, _, _)) (x_iload_n rfl rfl) ?_
    refine Rk.tr (F1 := (51, 3, _, _)) (x_iconst rfl) ?_
    refine Rk.tr (F1 := (51, 4, _, _)) (x_iadd rfl) ?_
    refine Rk.tr (F1 := (51, 4, _, _)) (x_top (nI_add p 3)) ?_
    refine Rk.tr (F1 := (51, 5, _, _)) (x_aload_n rfl rfl rfl) ?_
    refine Rk.tr (F1 := (51, 8, _, _)) (m_get rfl rfl (Nat.le_of_ble_eq_true rfl)) ?_
    refine Rk.tr (F1 := (51, 9, _, _)) (x_iload_n rfl rfl) ?_
    refine Rk.tr (F1 := (51, 10, _, _)) (m_iald (k := 37) (n := dp) rfl rfl rfl rfl (show dp < 14 by omega)) ?_
    refine Rk.tr (F1 := (51, 10, _, _)) (x_top (y := ch) hch) ?_
    refine Rk.tr (F1 := (51, 13, _, _)) (m_call (As := [_, _]) rfl rfl rfl (Or.inr rfl) rfl rfl rfl (Nat.le_of_ble_eq_true rfl) (c_load (nf := nf) (by omega) a0 a1 (Nat.le_of_lt hnc) hE ha) rfl) ?_
    refine Rk.tr (F1 := (51, 14, _, _)) (x_aload_n rfl rfl rfl) ?_
    refine Rk.tr (F1 := (51, 17, _, _)) (m_get rfl rfl (Nat.le_of_ble_eq_true rfl)) ?_
    refine Rk.tr (F1 := (51, 22, _, _)) (x_ifT rfl (tg := 22) rfl (show bI (lkE L a).1 = 0 by rw [va]; rfl)) ?_
    refine Rk.tr (F1 := (51, 23, _, _)) (x_aload_n rfl rfl rfl) ?_
    refine Rk.tr (F1 := (51, 24, _, _)) (x_iload_n rfl rfl) ?_
    refine Rk.tr (F1 := (51, 25, _, _)) (x_iconst rfl) ?_
    refine Rk.tr (F1 := (51, 26, _, _)) (x_iadd rfl) ?_
    refine Rk.tr (F1 := (51, 26, _, _)) (x_top (nI_add p 5)) ?_
    refine Rk.tr (F1 := (51, 29, _, _)) (m_call (As := [_]) rfl rfl rfl (Or.inr rfl) rfl rfl rfl (Nat.le_of_ble_eq_true rfl) (c_rowEnd (Q := Q1) t1 (by omega) k1) rfl) ?_
    refine Rk.tr (F1 := (51, 30, [_, _, _, _, _], _)) (x_istore_n (i := 3) rfl (Nat.le_of_ble_eq_true rfl)) ?_
    refine Rk.tr (F1 := (51, 31, _, _)) (x_aload_n rfl rfl rfl) ?_
    refine Rk.tr (F1 := (51, 32, _, _)) (x_iload_n rfl rfl) ?_
    refine Rk.tr (F1 := (51, 33, _, _)) (x_iconst rfl) ?_
    refine Rk.tr (F1 := (51, 34, _, _)) (x_iadd rfl) ?_
    refine Rk.tr (F1 := (51, 34, _, _)) (x_top (y := nI (p + 5 + tsum Q1)) (by show nI (p + 5 + tsum Q1 - 3) + nI 3 = _; rw [nI_add, Nat.sub_add_cancel (by omega)])) ?_
    refine Rk.tr (F1 := (51, 37, _, _)) (m_call (As := [_]) rfl rfl rfl (Or.inr rfl) rfl rfl rfl (Nat.le_of_ble_eq_true rfl) (c_rowEnd (Q := Q2) t2 (by omega) k2) rfl) ?_
    refine Rk.tr (F1 := (51, 38, _, _)) (x_iconst rfl) ?_
    refine Rk.tr (F1 := (51, 39, _, _)) (x_iadd rfl) ?_
    refine Rk.tr (F1 := (51, 39, _, _)) (x_top (y := nI (p + 5 + tsum Q1 + tsum Q2)) (by show nI (p + 5 + tsum Q1 + tsum Q2 - 3) + nI 3 = _; rw [nI_add, Nat.sub_add_cancel (by omega)])) ?_
    refine Rk.tr (F1 := (51, 41, [_, _, _, _, _], _)) (x_istore (i := 4) rfl (Nat.le_of_ble_eq_true rfl)) ?_
    refine Rk.tr (F1 := (51, 42, _, _)) (x_aload_n rfl rfl rfl) ?_
    refine Rk.tr (F1 := (51, 43, _, _)) (x_aload_n rfl rfl rfl) ?_
    refine Rk.tr (F1 := (51, 46, _, _)) (m_get rfl rfl (Nat.le_of_ble_eq_true rfl)) ?_
    refine Rk.tr (F1 := (51, 55, _, _)) (x_ifT rfl (tg := 55) rfl hz) ?_
    refine Rk.tr (F1 := (51, 56, _, _)) (x_iload_n rfl rfl) ?_
    refine Rk.tr (F1 := (51, 57, _, _)) (x_iconst rfl) ?_
    refine Rk.tr (F1 := (51, 58, _, _)) (x_iadd rfl) ?_
    refine Rk.tr (F1 := (51, 58, _, _)) (x_top (y := nI (p + 5)) (nI_add p 5)) ?_
    refine Rk.tr (F1 := (51, 59, _, _)) (x_aload_n rfl rfl rfl) ?_
    refine Rk.tr (F1 := (51, 62, _, _)) (m_get rfl rfl (Nat.le_of_ble_eq_true rfl)) ?_
    refine Rk.tr (F1 := (51, 63, _, _)) (x_iload_n rfl rfl) ?_
    refine Rk.tr (F1 := (51, 64, _, _)) (m_iald (k := 37) (n := dp) rfl rfl rfl rfl (show dp < 14 by omega)) ?_
    refine Rk.tr (F1 := (51, 64, _, _)) (x_top (y := ch) hch) ?_
    refine Rk.tr (F1 := (51, 66, _, _)) (x_iload rfl rfl) ?_
    refine Rk.tr (F1 := (51, 67, _, _)) (x_aload_n rfl rfl rfl) ?_
    refine Rk.tr (F1 := (51, 70, _, _)) (m_get rfl rfl (Nat.le_of_ble_eq_true rfl)) ?_
    refine Rk.tr (F1 := (51, 71, _, _)) (x_iload_n rfl rfl) ?_
    refine Rk.tr (F1 := (51, 72, _, _)) (x_iconst rfl) ?_
    refine Rk.tr (F1 := (51, 73, _, _)) (x_iadd rfl) ?_
    refine Rk.tr (F1 := (51, 74, _, _)) (m_iald (k := 5) (n := p + 1) rfl rfl rfl (nI_1 p) (show p + 1 < 800 by omega)) ?_
    refine Rk.tr (F1 := (51, 74, _, _)) (x_top (y := nm) h1) ?_
    refine Rk.tr (F1 := (51, 77, _, _)) (m_call (As := [_, _, _, _]) rfl rfl rfl (Or.inr rfl) rfl rfl rfl (Nat.le_of_ble_eq_true rfl) r1 rfl) ?_
    exact Rk.end rfl (Or.inr (Or.inl ⟨rfl, _, .int, rfl, rfl, rfl, rfl⟩))
theorem c_ret0 {a : Int32 × Int32} {L : Env} {ch : Int32} (hp : p + 3 ≤ 800) (hdp : dp ≤ 12) (hch : S.2 37 dp = ch) (hnc : nc < 900) (hE : En (rcl S nf) nc ch L) (a0 : S.2 5 (p + 1) = a.1) (a1 : S.2 5 (p + 1 + 1) = a.2) (ha : a.1 = 0 ∨ (a.1 = 1 ∧ a.2 ∈ L.map Prod.fst)) (h35 : S.1 35 = nI (dp + 1)) (h0 : dp = 0) :
    Rn E (d + 1) 44 [.ref o, .int (nI p), .int (nI dp)] (mh g o S) none (mh g o (msI (mVal S (lkE L a)) 35 (nI dp))) := by
  refine Rn.of (Nat.le_of_ble_eq_true rfl) ?_
  refine Rk.tr (F1 := (44, 1, _, _)) (x_aload_n rfl rfl rfl) ?_
  refine Rk.tr (F1 := (44, 2, _, _)) (x_iload_n rfl rfl) ?_
  refine Rk.tr (F1 := (44, 3, _, _)) (x_iconst rfl) ?_
  refine Rk.tr (F1 := (44, 4, _, _)) (x_iadd rfl) ?_
  refine Rk.tr (F1 := (44, 4, _, _)) (x_top (nI_add p 1)) ?_
  refine Rk.tr (F1 := (44, 5, _, _)) (x_aload_n rfl rfl rfl) ?_
  refine Rk.tr (F1 := (44, 8, _, _)) (m_get rfl rfl (Nat.le_of_ble_eq_true rfl)) ?_
  refine Rk.tr (F1 := (44, 9, _, _)) (x_iload_n rfl rfl) ?_
  refine Rk.tr (F1 := (44, 10, _, _)) (m_iald (k := 37) (n := dp) rfl rfl rfl rfl (show dp < 14 by omega)) ?_
  refine Rk.tr (F1 := (44, 10, _, _)) (x_top (y := ch) hch) ?_
  refine Rk.tr (F1 := (44, 13, _, _)) (m_call (As := [_, _]) rfl rfl rfl (Or.inr rfl) rfl rfl rfl (Nat.le_of_ble_eq_true rfl) (c_load (nf := nf) (by omega) a0 a1 (Nat.le_of_lt hnc) hE ha) rfl) ?_
  refine Rk.tr (F1 := (44, 14, _, _)) (x_aload_n rfl rfl rfl) ?_
  refine Rk.tr (F1 := (44, 15, _, _)) (x_dup rfl rfl) ?_
  refine Rk.tr (F1 := (44, 18, _, _)) (m_get rfl rfl (Nat.le_of_ble_eq_true rfl)) ?_
  refine Rk.tr (F1 := (44, 19, _, _)) (x_iconst rfl) ?_
  refine Rk.tr (F1 := (44, 20, _, _)) (x_isub rfl) ?_
  refine Rk.tr (F1 := (44, 20, _, _)) (x_top (y := nI dp) (by show S.1 35 - 1 = _; rw [h35, nI_m1 (by omega)]; rfl)) ?_
  refine Rk.tr (F1 := (44, 23, _, _)) (m_put rfl rfl rfl rfl rfl rfl) ?_
  refine Rk.tr (F1 := (44, 24, _, _)) (x_aload_n rfl rfl rfl) ?_
  refine Rk.tr (F1 := (44, 27, _, _)) (m_get rfl rfl (Nat.le_of_ble_eq_true rfl)) ?_
  refine Rk.tr (F1 := (44, 30, _, _)) (x_ifF rfl (tg := 31) rfl (fun z => z (by show nI dp = 0; rw [h0]; rfl))) ?_
  exact Rk.end rfl (Or.inl ⟨rfl, rfl, rfl, rfl⟩)
def mRet (S : MSt) (dp nc : Nat) (w cb bk : Int32) : MSt := msA (msA (mKeep S nc w cb) 37 (dp - 1) (nI nc)) 36 (dp - 1) bk
theorem c_ret {a : Int32 × Int32} {L : Env} {ch : Int32} (hp : p + 3 ≤ 800) (hdp : dp ≤ 12) (hch : S.2 37 dp = ch) (hnc : nc < 900) (hE : En (rcl S nf) nc ch L) (a0 : S.2 5 (p + 1) = a.1) (a1 : S.2 5 (p + 1 + 1) = a.2) (ha : a.1 = 0 ∨ (a.1 = 1 ∧ a.2 ∈ L.map Prod.fst)) (h35 : S.1 35 = nI (dp + 1)) {w cb bk : Int32} (h0 : 0 < dp) (hc : S.1 26 = nI nc) (h39 : S.2 39 dp = w) (h37 : S.2 37 (dp - 1) = cb) (h38 : S.2 38 dp = bk) :
    Rn E (d + 1) 44 [.ref o, .int (nI p), .int (nI dp)] (mh g o S) none (mh g o (mRet (msI (mVal S (lkE L a)) 35 (nI dp)) dp nc w cb bk)) := by
  refine Rn.of (Nat.le_of_ble_eq_true rfl) ?_
  refine Rk.tr (F1 := (44, 1, _, _)) (x_aload_n rfl rfl rfl) ?_
  refine Rk.tr (F1 := (44, 2, _, _)) (x_iload_n rfl rfl) ?_
  refine Rk.tr (F1 := (44, 3, _, _)) (x_iconst rfl) ?_
  refine Rk.tr (F1 := (44, 4, _, _)) (x_iadd rfl) ?_
  refine Rk.tr (F1 := (44, 4, _, _)) (x_top (nI_add p 1)) ?_
  refine Rk.tr (F1 := (44, 5, _, _)) (x_aload_n rfl rfl rfl) ?_
  refine Rk.tr (F1 := (44, 8, _, _)) (m_get rfl rfl (Nat.le_of_ble_eq_true rfl)) ?_
  refine Rk.tr (F1 := (44, 9, _, _)) (x_iload_n rfl rfl) ?_
  refine Rk.tr (F1 := (44, 10, _, _)) (m_iald (k := 37) (n := dp) rfl rfl rfl rfl (show dp < 14 by omega)) ?_
  refine Rk.tr (F1 := (44, 10, _, _)) (x_top (y := ch) hch) ?_
  refine Rk.tr (F1 := (44, 13, _, _)) (m_call (As := [_, _]) rfl rfl rfl (Or.inr rfl) rfl rfl rfl (Nat.le_of_ble_eq_true rfl) (c_load (nf := nf) (by omega) a0 a1 (Nat.le_of_lt hnc) hE ha) rfl) ?_
  refine Rk.tr (F1 := (44, 14, _, _)) (x_aload_n rfl rfl rfl) ?_
  refine Rk.tr (F1 := (44, 15, _, _)) (x_dup rfl rfl) ?_
  refine Rk.tr (F1 := (44, 18, _, _)) (m_get rfl rfl (Nat.le_of_ble_eq_true rfl)) ?_
  refine Rk.tr (F1 := (44, 19, _, _)) (x_iconst rfl) ?_
  refine Rk.tr (F1 := (44, 20, _, _)) (x_isub rfl) ?_
  refine Rk.tr (F1 := (44, 20, _, _)) (x_top (y := nI dp) (by show S.1 35 - 1 = _; rw [h35, nI_m1 (by omega)]; rfl)) ?_
  refine Rk.tr (F1 := (44, 23, _, _)) (m_put rfl rfl rfl rfl rfl rfl) ?_
  refine Rk.tr (F1 := (44, 24, _, _)) (x_aload_n rfl rfl rfl) ?_
  refine Rk.tr (F1 := (44, 27, _, _)) (m_get rfl rfl (Nat.le_of_ble_eq_true rfl)) ?_
  refine Rk.tr (F1 := (44, 31, _, _)) (x_ifT rfl (tg := 31) rfl (show ¬ nI dp = nI 0 from fun z => absurd ((nI_eq (by omega) (by omega)).mp z) (by omega))) ?_
  refine Rk.tr (F1 := (44, 32, _, _)) (x_aload_n rfl rfl rfl) ?_
  refine Rk.tr (F1 := (44, 35, _, _)) (m_get rfl rfl (Nat.le_of_ble_eq_true rfl)) ?_
  refine Rk.tr (F1 := (44, 36, _, _)) (x_iload_n rfl rfl) ?_
  refine Rk.tr (F1 := (44, 37, _, _)) (x_iconst rfl) ?_
  refine Rk.tr (F1 := (44, 38, _, _)) (x_isub rfl) ?_
  refine Rk.tr (F1 := (44, 39, _, _)) (x_aload_n rfl rfl rfl) ?_
  refine Rk.tr (F1 := (44, 40, _, _)) (x_aload_n rfl rfl rfl) ?_
  refine Rk.tr (F1 := (44, 43, _, _)) (m_get rfl rfl (Nat.le_of_ble_eq_true rfl)) ?_
  refine Rk.tr (F1 := (44, 44, _, _)) (x_iload_n rfl rfl) ?_
  refine Rk.tr (F1 := (44, 45, _, _)) (m_iald (k := 39) (n := dp) rfl rfl rfl rfl (show dp < 14 by omega)) ?_
  refine Rk.tr (F1 := (44, 45, _, _)) (x_top (y := w) h39) ?_
  refine Rk.tr (F1 := (44, 46, _, _)) (x_aload_n rfl rfl rfl) ?_
  refine Rk.tr (F1 := (44, 49, _, _)) (m_get rfl rfl (Nat.le_of_ble_eq_true rfl)) ?_
  refine Rk.tr (F1 := (44, 50, _, _)) (x_iload_n rfl rfl) ?_
  refine Rk.tr (F1 := (44, 51, _, _)) (x_iconst rfl) ?_
  refine Rk.tr (F1 := (44, 52, _, _)) (x_isub rfl) ?_
  refine Rk.tr (F1 := (44, 53, _, _)) (m_iald (k := 37) (n := dp - 1) rfl rfl rfl (nI_m1 h0) (show dp - 1 < 14 by omega)) ?_
  refine Rk.tr (F1 := (44, 53, _, _)) (x_top (y := cb) h37) ?_
  refine Rk.tr (F1 := (44, 56, _, _)) (m_call (As := [_, _]) rfl rfl rfl (Or.inr rfl) rfl rfl rfl (Nat.le_of_ble_eq_true rfl) (c_keep (b := (lkE L a).1) hc hnc rfl) rfl) ?_
  refine Rk.tr (F1 := (44, 57, _, _)) (m_iast (k := 37) (n := dp - 1) rfl rfl rfl (Nat.le_of_ble_eq_true rfl) (nI_m1 h0) (show dp - 1 < 14 by omega)) ?_
  refine Rk.tr (F1 := (44, 58, _, _)) (x_aload_n rfl rfl rfl) ?_
  refine Rk.tr (F1 := (44, 61, _, _)) (m_get rfl rfl (Nat.le_of_ble_eq_true rfl)) ?_
  refine Rk.tr (F1 := (44, 62, _, _)) (x_iload_n rfl rfl) ?_
  refine Rk.tr (F1 := (44, 63, _, _)) (x_iconst rfl) ?_
  refine Rk.tr (F1 := (44, 64, _, _)) (x_isub rfl) ?_
  refine Rk.tr (F1 := (44, 65, _, _)) (x_aload_n rfl rfl rfl) ?_
  refine Rk.tr (F1 := (44, 68, _, _)) (m_get rfl rfl (Nat.le_of_ble_eq_true rfl)) ?_
  refine Rk.tr (F1 := (44, 69, _, _)) (x_iload_n rfl rfl) ?_
  refine Rk.tr (F1 := (44, 70, _, _)) (m_iald (k := 38) (n := dp) rfl rfl rfl rfl (show dp < 14 by omega)) ?_
  refine Rk.tr (F1 := (44, 70, _, _)) (x_top (y := bk) h38) ?_
  refine Rk.tr (F1 := (44, 71, _, _)) (m_iast (k := 36) (n := dp - 1) rfl rfl rfl (Nat.le_of_ble_eq_true rfl) (nI_m1 h0) (show dp - 1 < 14 by omega)) ?_
  exact Rk.end rfl (Or.inl ⟨rfl, rfl, rfl, rfl⟩)
theorem c_work5 (h : S.2 42 2 = 400) : Rn E d 47 [.ref o, .int (nI p), .int (nI dp)] (mh g o S) (some (.int 5)) (mh g o S) := by
  refine Rn.of (Nat.le_of_ble_eq_true rfl) ?_
  refine Rk.tr (F1 := (47, 1, _, _)) (x_aload_n rfl rfl rfl) ?_
  refine Rk.tr (F1 := (47, 4, _, _)) (m_get rfl rfl (Nat.le_of_ble_eq_true rfl)) ?_
  refine Rk.tr (F1 := (47, 5, _, _)) (x_iconst rfl) ?_
  refine Rk.tr (F1 := (47, 6, _, _)) (m_iald (k := 42) (n := 2) rfl rfl rfl rfl (Nat.le_of_ble_eq_true rfl)) ?_
  refine Rk.tr (F1 := (47, 9, _, _)) (x_sipush rfl) ?_
  refine Rk.tr (F1 := (47, 12, _, _)) (x_icF rfl (tg := 14) rfl (fun z => z h)) ?_
  refine Rk.tr (F1 := (47, 13, _, _)) (x_iconst rfl) ?_
  exact Rk.end rfl (Or.inr (Or.inl ⟨rfl, _, .int, rfl, rfl, rfl, rfl⟩))
theorem c_workF {S1 : MSt} (hb : S.2 42 2 = nI bg) (h4 : bg < 400) (hp : p + 2 < 800) (hk : S.2 5 (p + 2) = 2) (h : Rn E (d + 2) 48 [.ref o, .int (nI p), .int (nI dp)] (mh g o (mWrk S bg)) none (mh g o S1)) : Rn E (d + 3) 47 [.ref o, .int (nI p), .int (nI dp)] (mh g o S) (some (.int 0)) (mh g o S1) := by
  refine Rn.of (Nat.le_of_ble_eq_true rfl) ?_
  have hne : ¬ S.2 42 2 = 400 := fun z => by
    have e : nI bg = nI 400 := hb.symm.trans z
    exact absurd ((nI_eq (by omega) (by decide)).mp e) (by omega)
  refine Rk.tr (F1 := (47, 1, _, _)) (x_aload_n rfl rfl rfl) ?_
  refine Rk.tr (F1 := (47, 4, _, _)) (m_get rfl rfl (Nat.le_of_ble_eq_true rfl)) ?_
  refine Rk.tr (F1 := (47, 5, _, _)) (x_iconst rfl) ?_
  refine Rk.tr (F1 := (47, 6, _, _)) (m_iald (k := 42) (n := 2) rfl rfl rfl rfl (Nat.le_of_ble_eq_true rfl)) ?_
  refine Rk.tr (F1 := (47, 9, _, _)) (x_sipush rfl) ?_
  refine Rk.tr (F1 := (47, 14, _, _)) (x_icT rfl (tg := 14) rfl hne) ?_
  refine Rk.tr (F1 := (47, 15, _, _)) (x_aload_n rfl rfl rfl) ?_
  refine Rk.tr (F1 := (47, 18, _, _)) (m_get rfl rfl (Nat.le_of_ble_eq_true rfl)) ?_
  refine Rk.tr (F1 := (47, 19, _, _)) (x_iconst rfl) ?_
  refine Rk.tr (F1 := (47, 20, _, _)) (x_dup2 rfl rfl rfl) ?_
  refine Rk.tr (F1 := (47, 21, _, _)) (m_iald (k := 42) (n := 2) rfl rfl rfl rfl (Nat.le_of_ble_eq_true rfl)) ?_
  refine Rk.tr (F1 := (47, 22, _, _)) (x_iconst rfl) ?_
  refine Rk.tr (F1 := (47, 23, _, _)) (x_iadd rfl) ?_
  refine Rk.tr (F1 := (47, 23, _, _)) (x_top (y := nI (bg + 1)) (by show S.2 42 2 + 1 = _; rw [hb, nI_1])) ?_
  refine Rk.tr (F1 := (47, 24, _, _)) (m_iast (k := 42) (n := 2) rfl rfl rfl (Nat.le_of_ble_eq_true rfl) rfl (Nat.le_of_ble_eq_true rfl)) ?_
  refine Rk.tr (F1 := (47, 25, _, _)) (x_aload_n rfl rfl rfl) ?_
  refine Rk.tr (F1 := (47, 28, _, _)) (m_get rfl rfl (Nat.le_of_ble_eq_true rfl)) ?_
  refine Rk.tr (F1 := (47, 29, _, _)) (x_iload_n rfl rfl) ?_
  refine Rk.tr (F1 := (47, 30, _, _)) (x_iconst rfl) ?_
  refine Rk.tr (F1 := (47, 31, _, _)) (x_iadd rfl) ?_
  refine Rk.tr (F1 := (47, 32, _, _)) (m_iald (k := 5) (n := p + 2) rfl rfl rfl (nI_add p 2) hp) ?_
  refine Rk.tr (F1 := (47, 32, _, _)) (x_top (y := 2) hk) ?_
  refine Rk.tr (F1 := (47, 64, _, _)) (x_tswIn (tg := 64) rfl (by decide) (by decide) rfl rfl) ?_
  refine Rk.tr (F1 := (47, 65, _, _)) (x_aload_n rfl rfl rfl) ?_
  refine Rk.tr (F1 := (47, 66, _, _)) (x_iload_n rfl rfl) ?_
  refine Rk.tr (F1 := (47, 67, _, _)) (x_iload_n rfl rfl) ?_
  refine Rk.tr (F1 := (47, 70, _, _)) (m_call (As := [_, _]) rfl rfl rfl (Or.inr rfl) rfl rfl rfl (Nat.le_of_ble_eq_true rfl) h rfl) ?_
  refine Rk.tr (F1 := (47, 71, _, _)) (x_iconst rfl) ?_
  exact Rk.end rfl (Or.inr (Or.inl ⟨rfl, _, .int, rfl, rfl, rfl, rfl⟩))
theorem c_workA {S1 : MSt} {e : Int32} (hb : S.2 42 2 = nI bg) (h4 : bg < 400) (hp : p + 2 < 800) (hk : S.2 5 (p + 2) = 3) (h : Rn E (d + 2) 49 [.ref o, .int (nI p), .int (nI dp)] (mh g o (mWrk S bg)) (some (.int e)) (mh g o S1)) : Rn E (d + 3) 47 [.ref o, .int (nI p), .int (nI dp)] (mh g o S) (some (.int e)) (mh g o S1) := by
  refine Rn.of (Nat.le_of_ble_eq_true rfl) ?_
  have hne : ¬ S.2 42 2 = 400 := fun z => by
    have e : nI bg = nI 400 := hb.symm.trans z
    exact absurd ((nI_eq (by omega) (by decide)).mp e) (by omega)
  refine Rk.tr (F1 := (47, 1, _, _)) (x_aload_n rfl rfl rfl) ?_
  refine Rk.tr (F1 := (47, 4, _, _)) (m_get rfl rfl (Nat.le_of_ble_eq_true rfl)) ?_
  refine Rk.tr (F1 := (47, 5, _, _)) (x_iconst rfl) ?_
  refine Rk.tr (F1 := (47, 6, _, _)) (m_iald (k := 42) (n := 2) rfl rfl rfl rfl (Nat.le_of_ble_eq_true rfl)) ?_
  refine Rk.tr (F1 := (47, 9, _, _)) (x_sipush rfl) ?_
  refine Rk.tr (F1 := (47, 14, _, _)) (x_icT rfl (tg := 14) rfl hne) ?_
  refine Rk.tr (F1 := (47, 15, _, _)) (x_aload_n rfl rfl rfl) ?_
  refine Rk.tr (F1 := (47, 18, _, _)) (m_get rfl rfl (Nat.le_of_ble_eq_true rfl)) ?_
  refine Rk.tr (F1 := (47, 19, _, _)) (x_iconst rfl) ?_
  refine Rk.tr (F1 := (47, 20, _, _)) (x_dup2 rfl rfl rfl) ?_
  refine Rk.tr (F1 := (47, 21, _, _)) (m_iald (k := 42) (n := 2) rfl rfl rfl rfl (Nat.le_of_ble_eq_true rfl)) ?_
  refine Rk.tr (F1 := (47, 22, _, _)) (x_iconst rfl) ?_
  refine Rk.tr (F1 := (47, 23, _, _)) (x_iadd rfl) ?_
  refine Rk.tr (F1 := (47, 23, _, _)) (x_top (y := nI (bg + 1)) (by show S.2 42 2 + 1 = _; rw [hb, nI_1])) ?_
  refine Rk.tr (F1 := (47, 24, _, _)) (m_iast (k := 42) (n := 2) rfl rfl rfl (Nat.le_of_ble_eq_true rfl) rfl (Nat.le_of_ble_eq_true rfl)) ?_
  refine Rk.tr (F1 := (47, 25, _, _)) (x_aload_n rfl rfl rfl) ?_
  refine Rk.tr (F1 := (47, 28, _, _)) (m_get rfl rfl (Nat.le_of_ble_eq_true rfl)) ?_
  refine Rk.tr (F1 := (47, 29, _, _)) (x_iload_n rfl rfl) ?_
  refine Rk.tr (F1 := (47, 30, _, _)) (x_iconst rfl) ?_
  refine Rk.tr (F1 := (47, 31, _, _)) (x_iadd rfl) ?_
  refine Rk.tr (F1 := (47, 32, _, _)) (m_iald (k := 5) (n := p + 2) rfl rfl rfl (nI_add p 2) hp) ?_
  refine Rk.tr (F1 := (47, 32, _, _)) (x_top (y := 3) hk) ?_
  refine Rk.tr (F1 := (47, 72, _, _)) (x_tswIn (tg := 72) rfl (by decide) (by decide) rfl rfl) ?_
  refine Rk.tr (F1 := (47, 73, _, _)) (x_aload_n rfl rfl rfl) ?_
  refine Rk.tr (F1 := (47, 74, _, _)) (x_iload_n rfl rfl) ?_
  refine Rk.tr (F1 := (47, 75, _, _)) (x_iload_n rfl rfl) ?_
  refine Rk.tr (F1 := (47, 78, _, _)) (m_call (As := [_, _]) rfl rfl rfl (Or.inr rfl) rfl rfl rfl (Nat.le_of_ble_eq_true rfl) h rfl) ?_
  exact Rk.end rfl (Or.inr (Or.inl ⟨rfl, _, .int, rfl, rfl, rfl, rfl⟩))
theorem c_workO {S1 : MSt} {e : Int32} (hb : S.2 42 2 = nI bg) (h4 : bg < 400) (hp : p + 2 < 800) (hk : S.2 5 (p + 2) = 5) (h : Rn E (d + 2) 50 [.ref o, .int (nI p), .int (nI dp)] (mh g o (mWrk S bg)) (some (.int e)) (mh g o S1)) : Rn E (d + 3) 47 [.ref o, .int (nI p), .int (nI dp)] (mh g o S) (some (.int e)) (mh g o S1) := by
  refine Rn.of (Nat.le_of_ble_eq_true rfl) ?_
  have hne : ¬ S.2 42 2 = 400 := fun z => by
    have e : nI bg = nI 400 := hb.symm.trans z
    exact absurd ((nI_eq (by omega) (by decide)).mp e) (by omega)
  refine Rk.tr (F1 := (47, 1, _, _)) (x_aload_n rfl rfl rfl) ?_
  refine Rk.tr (F1 := (47, 4, _, _)) (m_get rfl rfl (Nat.le_of_ble_eq_true rfl)) ?_
  refine Rk.tr (F1 := (47, 5, _, _)) (x_iconst rfl) ?_
  refine Rk.tr (F1 := (47, 6, _, _)) (m_iald (k := 42) (n := 2) rfl rfl rfl rfl (Nat.le_of_ble_eq_true rfl)) ?_
  refine Rk.tr (F1 := (47, 9, _, _)) (x_sipush rfl) ?_
  refine Rk.tr (F1 := (47, 14, _, _)) (x_icT rfl (tg := 14) rfl hne) ?_
  refine Rk.tr (F1 := (47, 15, _, _)) (x_aload_n rfl rfl rfl) ?_
  refine Rk.tr (F1 := (47, 18, _, _)) (m_get rfl rfl (Nat.le_of_ble_eq_true rfl)) ?_
  refine Rk.tr (F1 := (47, 19, _, _)) (x_iconst rfl) ?_
  refine Rk.tr (F1 := (47, 20, _, _)) (x_dup2 rfl rfl rfl) ?_
  refine Rk.tr (F1 := (47, 21, _, _)) (m_iald (k := 42) (n := 2) rfl rfl rfl rfl (Nat.le_of_ble_eq_true rfl)) ?_
  refine Rk.tr (F1 := (47, 22, _, _)) (x_iconst rfl) ?_
  refine Rk.tr (F1 := (47, 23, _, _)) (x_iadd rfl) ?_
  refine Rk.tr (F1 := (47, 23, _, _)) (x_top (y := nI (bg + 1)) (by show S.2 42 2 + 1 = _; rw [hb, nI_1])) ?_
  refine Rk.tr (F1 := (47, 24, _, _)) (m_iast (k := 42) (n := 2) rfl rfl rfl (Nat.le_of_ble_eq_true rfl) rfl (Nat.le_of_ble_eq_true rfl)) ?_
  refine Rk.tr (F1 := (47, 25, _, _)) (x_aload_n rfl rfl rfl) ?_
  refine Rk.tr (F1 := (47, 28, _, _)) (m_get rfl rfl (Nat.le_of_ble_eq_true rfl)) ?_
  refine Rk.tr (F1 := (47, 29, _, _)) (x_iload_n rfl rfl) ?_
  refine Rk.tr (F1 := (47, 30, _, _)) (x_iconst rfl) ?_
  refine Rk.tr (F1 := (47, 31, _, _)) (x_iadd rfl) ?_
  refine Rk.tr (F1 := (47, 32, _, _)) (m_iald (k := 5) (n := p + 2) rfl rfl rfl (nI_add p 2) hp) ?_
  refine Rk.tr (F1 := (47, 32, _, _)) (x_top (y := 5) hk) ?_
  refine Rk.tr (F1 := (47, 79, _, _)) (x_tswIn (tg := 79) rfl (by decide) (by decide) rfl rfl) ?_
  refine Rk.tr (F1 := (47, 80, _, _)) (x_aload_n rfl rfl rfl) ?_
  refine Rk.tr (F1 := (47, 81, _, _)) (x_iload_n rfl rfl) ?_
  refine Rk.tr (F1 := (47, 82, _, _)) (x_iload_n rfl rfl) ?_
  refine Rk.tr (F1 := (47, 85, _, _)) (m_call (As := [_, _]) rfl rfl rfl (Or.inr rfl) rfl rfl rfl (Nat.le_of_ble_eq_true rfl) h rfl) ?_
  exact Rk.end rfl (Or.inr (Or.inl ⟨rfl, _, .int, rfl, rfl, rfl, rfl⟩))
theorem c_workI {S1 : MSt} {e : Int32} (hb : S.2 42 2 = nI bg) (h4 : bg < 400) (hp : p + 2 < 800) (hk : S.2 5 (p + 2) = 6) (h : Rn E (d + 2) 51 [.ref o, .int (nI p), .int (nI dp)] (mh g o (mWrk S bg)) (some (.int e)) (mh g o S1)) : Rn E (d + 3) 47 [.ref o, .int (nI p), .int (nI dp)] (mh g o S) (some (.int e)) (mh g o S1) := by
  refine Rn.of (Nat.le_of_ble_eq_true rfl) ?_
  have hne : ¬ S.2 42 2 = 400 := fun z => by
    have e : nI bg = nI 400 := hb.symm.trans z
    exact absurd ((nI_eq (by omega) (by decide)).mp e) (by omega)
  refine Rk.tr (F1 := (47, 1, _, _)) (x_aload_n rfl rfl rfl) ?_
  refine Rk.tr (F1 := (47, 4, _, _)) (m_get rfl rfl (Nat.le_of_ble_eq_true rfl)) ?_
  refine Rk.tr (F1 := (47, 5, _, _)) (x_iconst rfl) ?_
  refine Rk.tr (F1 := (47, 6, _, _)) (m_iald (k := 42) (n := 2) rfl rfl rfl rfl (Nat.le_of_ble_eq_true rfl)) ?_
  refine Rk.tr (F1 := (47, 9, _, _)) (x_sipush rfl) ?_
  refine Rk.tr (F1 := (47, 14, _, _)) (x_icT rfl (tg := 14) rfl hne) ?_
  refine Rk.tr (F1 := (47, 15, _, _)) (x_aload_n rfl rfl rfl) ?_
  refine Rk.tr (F1 := (47, 18, _, _)) (m_get rfl rfl (Nat.le_of_ble_eq_true rfl)) ?_
  refine Rk.tr (F1 := (47, 19, _, _)) (x_iconst rfl) ?_
  refine Rk.tr (F1 := (47, 20, _, _)) (x_dup2 rfl rfl rfl) ?_
  refine Rk.tr (F1 := (47, 21, _, _)) (m_iald (k := 42) (n := 2) rfl rfl rfl rfl (Nat.le_of_ble_eq_true rfl)) ?_
  refine Rk.tr (F1 := (47, 22, _, _)) (x_iconst rfl) ?_
  refine Rk.tr (F1 := (47, 23, _, _)) (x_iadd rfl) ?_
  refine Rk.tr (F1 := (47, 23, _, _)) (x_top (y := nI (bg + 1)) (by show S.2 42 2 + 1 = _; rw [hb, nI_1])) ?_
  refine Rk.tr (F1 := (47, 24, _, _)) (m_iast (k := 42) (n := 2) rfl rfl rfl (Nat.le_of_ble_eq_true rfl) rfl (Nat.le_of_ble_eq_true rfl)) ?_
  refine Rk.tr (F1 := (47, 25, _, _)) (x_aload_n rfl rfl rfl) ?_
  refine Rk.tr (F1 := (47, 28, _, _)) (m_get rfl rfl (Nat.le_of_ble_eq_true rfl)) ?_
  refine Rk.tr (F1 := (47, 29, _, _)) (x_iload_n rfl rfl) ?_
  refine Rk.tr (F1 := (47, 30, _, _)) (x_iconst rfl) ?_
  refine Rk.tr (F1 := (47, 31, _, _)) (x_iadd rfl) ?_
  refine Rk.tr (F1 := (47, 32, _, _)) (m_iald (k := 5) (n := p + 2) rfl rfl rfl (nI_add p 2) hp) ?_
  refine Rk.tr (F1 := (47, 32, _, _)) (x_top (y := 6) hk) ?_
  refine Rk.tr (F1 := (47, 86, _, _)) (x_tswOut (tg := 86) rfl (by decide) rfl) ?_
  refine Rk.tr (F1 := (47, 87, _, _)) (x_aload_n rfl rfl rfl) ?_
  refine Rk.tr (F1 := (47, 88, _, _)) (x_iload_n rfl rfl) ?_
  refine Rk.tr (F1 := (47, 89, _, _)) (x_iload_n rfl rfl) ?_
  refine Rk.tr (F1 := (47, 92, _, _)) (m_call (As := [_, _]) rfl rfl rfl (Or.inr rfl) rfl rfl rfl (Nat.le_of_ble_eq_true rfl) h rfl) ?_
  exact Rk.end rfl (Or.inr (Or.inl ⟨rfl, _, .int, rfl, rfl, rfl, rfl⟩))
abbrev C66 (o : Nat) : PF := (42, 66, [some (.ref o), none, none, none], [])
theorem wl_r {S1 : MSt} (h35 : S.1 35 = nI (dp + 1)) (hdp : dp ≤ 12) (h36 : S.2 36 dp = nI p) (hp : p < 800) (h9 : S.2 5 p = 9) (h : Rn E (d + 3) 44 [.ref o, .int (nI p), .int (nI dp)] (mh g o S) none (mh g o S1)) : Ex E (d + 4) (C66 o) (mh g o S) (C66 o) (mh g o S1) := by
  refine Ex.tr (F1 := (42, 67, _, _)) (x_aload_n rfl rfl rfl) ?_
  refine Ex.tr (F1 := (42, 70, _, _)) (m_get rfl rfl (Nat.le_of_ble_eq_true rfl)) ?_
  refine Ex.tr (F1 := (42, 73, _, _)) (x_ifF rfl (tg := 123) rfl (by show ¬ S.1 35 ≤ nI 0; rw [h35]; exact nI_ge (by omega) (by omega))) ?_
  refine Ex.tr (F1 := (42, 74, _, _)) (x_aload_n rfl rfl rfl) ?_
  refine Ex.tr (F1 := (42, 77, _, _)) (m_get rfl rfl (Nat.le_of_ble_eq_true rfl)) ?_
  refine Ex.tr (F1 := (42, 78, _, _)) (x_iconst rfl) ?_
  refine Ex.tr (F1 := (42, 79, _, _)) (x_isub rfl) ?_
  refine Ex.tr (F1 := (42, 79, _, _)) (x_top (y := nI dp) (by show S.1 35 - 1 = _; rw [h35, nI_m1 (by omega)]; rfl)) ?_
  refine Ex.tr (F1 := (42, 80, [_, _, _, _], _)) (x_istore_n (i := 1) rfl (Nat.le_of_ble_eq_true rfl)) ?_
  refine Ex.tr (F1 := (42, 81, _, _)) (x_aload_n rfl rfl rfl) ?_
  refine Ex.tr (F1 := (42, 84, _, _)) (m_get rfl rfl (Nat.le_of_ble_eq_true rfl)) ?_
  refine Ex.tr (F1 := (42, 85, _, _)) (x_iload_n rfl rfl) ?_
  refine Ex.tr (F1 := (42, 86, _, _)) (m_iald (k := 36) (n := dp) rfl rfl rfl rfl (show dp < 14 by omega)) ?_
  refine Ex.tr (F1 := (42, 86, _, _)) (x_top (y := nI p) h36) ?_
  refine Ex.tr (F1 := (42, 87, [_, _, _, _], _)) (x_istore_n (i := 2) rfl (Nat.le_of_ble_eq_true rfl)) ?_
  refine Ex.tr (F1 := (42, 88, _, _)) (x_aload_n rfl rfl rfl) ?_
  refine Ex.tr (F1 := (42, 91, _, _)) (m_get rfl rfl (Nat.le_of_ble_eq_true rfl)) ?_
  refine Ex.tr (F1 := (42, 92, _, _)) (x_iload_n rfl rfl) ?_
  refine Ex.tr (F1 := (42, 93, _, _)) (m_iald (k := 5) (n := p) rfl rfl rfl rfl (show p < 800 by omega)) ?_
  refine Ex.tr (F1 := (42, 95, _, _)) (x_bipush rfl) ?_
  refine Ex.tr (F1 := (42, 98, _, _)) (x_icF rfl (tg := 107) rfl (fun z => z h9)) ?_
  refine Ex.tr (F1 := (42, 99, _, _)) (x_aload_n rfl rfl rfl) ?_
  refine Ex.tr (F1 := (42, 100, _, _)) (x_iload_n rfl rfl) ?_
  refine Ex.tr (F1 := (42, 101, _, _)) (x_iload_n rfl rfl) ?_
  refine Ex.tr (F1 := (42, 104, _, _)) (m_call (As := [_, _]) rfl rfl rfl (Or.inr rfl) rfl rfl rfl (Nat.le_of_ble_eq_true rfl) h rfl) ?_
  refine Ex.tr (F1 := (42, 120, _, _)) (x_goto rfl rfl) ?_
  refine Ex.tr (F1 := (42, 66, [_, _, _, _], _)) (x_goto rfl rfl) ?_
  exact x_wk ⟨Or.inr rfl, Or.inl rfl, Or.inl rfl, Or.inl rfl, trivial⟩
theorem wl_0 {S1 : MSt} (h35 : S.1 35 = nI (dp + 1)) (hdp : dp ≤ 12) (h36 : S.2 36 dp = nI p) (hp : p < 800) (h9 : ¬ S.2 5 p = 9) (h : Rn E (d + 3) 47 [.ref o, .int (nI p), .int (nI dp)] (mh g o S) (some (.int 0)) (mh g o S1)) : Ex E (d + 4) (C66 o) (mh g o S) (C66 o) (mh g o S1) := by
  refine Ex.tr (F1 := (42, 67, _, _)) (x_aload_n rfl rfl rfl) ?_
  refine Ex.tr (F1 := (42, 70, _, _)) (m_get rfl rfl (Nat.le_of_ble_eq_true rfl)) ?_
  refine Ex.tr (F1 := (42, 73, _, _)) (x_ifF rfl (tg := 123) rfl (by show ¬ S.1 35 ≤ nI 0; rw [h35]; exact nI_ge (by omega) (by omega))) ?_
  refine Ex.tr (F1 := (42, 74, _, _)) (x_aload_n rfl rfl rfl) ?_
  refine Ex.tr (F1 := (42, 77, _, _)) (m_get rfl rfl (Nat.le_of_ble_eq_true rfl)) ?_
  refine Ex.tr (F1 := (42, 78, _, _)) (x_iconst rfl) ?_
  refine Ex.tr (F1 := (42, 79, _, _)) (x_isub rfl) ?_
  refine Ex.tr (F1 := (42, 79, _, _)) (x_top (y := nI dp) (by show S.1 35 - 1 = _; rw [h35, nI_m1 (by omega)]; rfl)) ?_
  refine Ex.tr (F1 := (42, 80, [_, _, _, _], _)) (x_istore_n (i := 1) rfl (Nat.le_of_ble_eq_true rfl)) ?_
  refine Ex.tr (F1 := (42, 81, _, _)) (x_aload_n rfl rfl rfl) ?_
  refine Ex.tr (F1 := (42, 84, _, _)) (m_get rfl rfl (Nat.le_of_ble_eq_true rfl)) ?_
  refine Ex.tr (F1 := (42, 85, _, _)) (x_iload_n rfl rfl) ?_
  refine Ex.tr (F1 := (42, 86, _, _)) (m_iald (k := 36) (n := dp) rfl rfl rfl rfl (show dp < 14 by omega)) ?_
  refine Ex.tr (F1 := (42, 86, _, _)) (x_top (y := nI p) h36) ?_
  refine Ex.tr (F1 := (42, 87, [_, _, _, _], _)) (x_istore_n (i := 2) rfl (Nat.le_of_ble_eq_true rfl)) ?_
  refine Ex.tr (F1 := (42, 88, _, _)) (x_aload_n rfl rfl rfl) ?_
  refine Ex.tr (F1 := (42, 91, _, _)) (m_get rfl rfl (Nat.le_of_ble_eq_true rfl)) ?_
  refine Ex.tr (F1 := (42, 92, _, _)) (x_iload_n rfl rfl) ?_
  refine Ex.tr (F1 := (42, 93, _, _)) (m_iald (k := 5) (n := p) rfl rfl rfl rfl (show p < 800 by omega)) ?_
  refine Ex.tr (F1 := (42, 95, _, _)) (x_bipush rfl) ?_
  refine Ex.tr (F1 := (42, 107, _, _)) (x_icT rfl (tg := 107) rfl h9) ?_
  refine Ex.tr (F1 := (42, 108, _, _)) (x_aload_n rfl rfl rfl) ?_
  refine Ex.tr (F1 := (42, 109, _, _)) (x_iload_n rfl rfl) ?_
  refine Ex.tr (F1 := (42, 110, _, _)) (x_iload_n rfl rfl) ?_
  refine Ex.tr (F1 := (42, 113, _, _)) (m_call (As := [_, _]) rfl rfl rfl (Or.inr rfl) rfl rfl rfl (Nat.le_of_ble_eq_true rfl) h rfl) ?_
  refine Ex.tr (F1 := (42, 114, [_, _, _, _], _)) (x_istore_n (i := 3) rfl (Nat.le_of_ble_eq_true rfl)) ?_
  refine Ex.tr (F1 := (42, 115, _, _)) (x_iload_n rfl rfl) ?_
  refine Ex.tr (F1 := (42, 120, _, _)) (x_ifT rfl (tg := 120) rfl (show (0 : Int32) ≤ 0 by decide)) ?_
  refine Ex.tr (F1 := (42, 66, [_, _, _, _], _)) (x_goto rfl rfl) ?_
  exact x_wk ⟨Or.inr rfl, Or.inl rfl, Or.inl rfl, Or.inl rfl, trivial⟩
theorem wl_e {S1 : MSt} {e : Nat} (h35 : S.1 35 = nI (dp + 1)) (hdp : dp ≤ 12) (h36 : S.2 36 dp = nI p) (hp : p < 800) (h9 : ¬ S.2 5 p = 9) (he : 0 < e) (he5 : e < 100) (h : Rn E (d + 3) 47 [.ref o, .int (nI p), .int (nI dp)] (mh g o S) (some (.int (nI e))) (mh g o S1)) : Rk E (d + 4) (C66 o) (mh g o S) (some (.int (nI e))) (mh g o S1) := by
  refine Rk.tr (F1 := (42, 67, _, _)) (x_aload_n rfl rfl rfl) ?_
  refine Rk.tr (F1 := (42, 70, _, _)) (m_get rfl rfl (Nat.le_of_ble_eq_true rfl)) ?_
  refine Rk.tr (F1 := (42, 73, _, _)) (x_ifF rfl (tg := 123) rfl (by show ¬ S.1 35 ≤ nI 0; rw [h35]; exact nI_ge (by omega) (by omega))) ?_
  refine Rk.tr (F1 := (42, 74, _, _)) (x_aload_n rfl rfl rfl) ?_
  refine Rk.tr (F1 := (42, 77, _, _)) (m_get rfl rfl (Nat.le_of_ble_eq_true rfl)) ?_
  refine Rk.tr (F1 := (42, 78, _, _)) (x_iconst rfl) ?_
  refine Rk.tr (F1 := (42, 79, _, _)) (x_isub rfl) ?_
  refine Rk.tr (F1 := (42, 79, _, _)) (x_top (y := nI dp) (by show S.1 35 - 1 = _; rw [h35, nI_m1 (by omega)]; rfl)) ?_
  refine Rk.tr (F1 := (42, 80, [_, _, _, _], _)) (x_istore_n (i := 1) rfl (Nat.le_of_ble_eq_true rfl)) ?_
  refine Rk.tr (F1 := (42, 81, _, _)) (x_aload_n rfl rfl rfl) ?_
  refine Rk.tr (F1 := (42, 84, _, _)) (m_get rfl rfl (Nat.le_of_ble_eq_true rfl)) ?_
  refine Rk.tr (F1 := (42, 85, _, _)) (x_iload_n rfl rfl) ?_
  refine Rk.tr (F1 := (42, 86, _, _)) (m_iald (k := 36) (n := dp) rfl rfl rfl rfl (show dp < 14 by omega)) ?_
  refine Rk.tr (F1 := (42, 86, _, _)) (x_top (y := nI p) h36) ?_
  refine Rk.tr (F1 := (42, 87, [_, _, _, _], _)) (x_istore_n (i := 2) rfl (Nat.le_of_ble_eq_true rfl)) ?_
  refine Rk.tr (F1 := (42, 88, _, _)) (x_aload_n rfl rfl rfl) ?_
  refine Rk.tr (F1 := (42, 91, _, _)) (m_get rfl rfl (Nat.le_of_ble_eq_true rfl)) ?_
  refine Rk.tr (F1 := (42, 92, _, _)) (x_iload_n rfl rfl) ?_
  refine Rk.tr (F1 := (42, 93, _, _)) (m_iald (k := 5) (n := p) rfl rfl rfl rfl (show p < 800 by omega)) ?_
  refine Rk.tr (F1 := (42, 95, _, _)) (x_bipush rfl) ?_
  refine Rk.tr (F1 := (42, 107, _, _)) (x_icT rfl (tg := 107) rfl h9) ?_
  refine Rk.tr (F1 := (42, 108, _, _)) (x_aload_n rfl rfl rfl) ?_
  refine Rk.tr (F1 := (42, 109, _, _)) (x_iload_n rfl rfl) ?_
  refine Rk.tr (F1 := (42, 110, _, _)) (x_iload_n rfl rfl) ?_
  refine Rk.tr (F1 := (42, 113, _, _)) (m_call (As := [_, _]) rfl rfl rfl (Or.inr rfl) rfl rfl rfl (Nat.le_of_ble_eq_true rfl) h rfl) ?_
  refine Rk.tr (F1 := (42, 114, [_, _, _, _], _)) (x_istore_n (i := 3) rfl (Nat.le_of_ble_eq_true rfl)) ?_
  refine Rk.tr (F1 := (42, 115, _, _)) (x_iload_n rfl rfl) ?_
  refine Rk.tr (F1 := (42, 118, _, _)) (x_ifF rfl (tg := 120) rfl (show ¬ nI e ≤ nI 0 from nI_ge (by omega) (by omega))) ?_
  refine Rk.tr (F1 := (42, 119, _, _)) (x_iload_n rfl rfl) ?_
  exact Rk.end rfl (Or.inr (Or.inl ⟨rfl, _, .int, rfl, rfl, rfl, rfl⟩))
end M18
