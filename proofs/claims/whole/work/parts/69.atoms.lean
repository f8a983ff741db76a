/-! ===== the class: what atoms and single bindings come to ===== -/
def ccl (T : MT) (nf j : Nat) (x : Int32) (v : Val) (c' : Int32) : Prop := T.2.1 0 j = x ∧ T.2.2.1 j = vL v ∧ T.2.1 2 j = c' ∧ VOk nf v
def FnC (G : PG) (T : MT) (nf nc k : Nat) (fn : Fn) : Prop := ∃ (xF rb : Nat) (F : It) (Bf : List AI) (s : ES), T.2.2.2 k = .ref xF ∧ G.2 xF = some (F, [rb]) ∧ F.1 = 2 ∧ F.2.2.1 = fn.1 ∧ AP Bf = fn.2.1 ∧ WA G ((rb, []) :: s) Bf [] ∧ En (ccl T nf) nc (T.2.1 5 k) fn.2.2
def RC (G : PG) (T : MT) (nc dp : Nat) (σ : RSt) : Prop := T.1 3 = nI nc ∧ nc + dp ≤ 2 * σ.2.2.1 ∧ σ.2.2.1 ≤ 400 ∧ T.1 6 = nI σ.2.1 ∧ σ.2.1 ≤ σ.2.2.1 ∧ T.1 7 = 0 ∧ T.1 10 = nI σ.2.2.1 ∧ T.1 11 = nI σ.2.2.2 ∧ σ.2.2.2 ≤ 12 ∧ ∀ k, k < σ.2.1 → FnC G T σ.2.1 nc k (σ.1 k)
def KCc (nc : Nat) (T T' : MT) : Prop := ∀ j, j < nc → T'.2.1 0 j = T.2.1 0 j ∧ T'.2.2.1 j = T.2.2.1 j ∧ T'.2.1 2 j = T.2.1 2 j
theorem KCc.rf {nc : Nat} {T : MT} : KCc nc T T := fun _ _ => ⟨rfl, rfl, rfl⟩
theorem KCc.tr {nc nc' : Nat} {T T1 T2 : MT} (h : KCc nc T T1) (h' : KCc nc' T1 T2) (hn : nc ≤ nc') : KCc nc T T2 := fun j hj => by
  obtain ⟨a, b, c⟩ := h j hj
  obtain ⟨a', b', c'⟩ := h' j (by omega)
  exact ⟨a'.trans a, b'.trans b, c'.trans c⟩
theorem ccl.mono {T T' : MT} {nc nf nf' j : Nat} {x : Int32} {v : Val} {c : Int32} (h : ccl T nf j x v c) (hk : KCc nc T T') (hj : j < nc) (hn : nf ≤ nf') : ccl T' nf' j x v c := by
  obtain ⟨a, b, c, e⟩ := h
  obtain ⟨a', b', c'⟩ := hk j hj
  exact ⟨a'.trans a, b'.trans b, c'.trans c, VOk.mono (v := v) e hn⟩
theorem EnC.keep {T T' : MT} {nc nc' nf nf' : Nat} {c : Int32} {L : Env} (h : En (ccl T nf) nc c L) (hk : KCc nc T T') (hn : nf ≤ nf') (hc : nc ≤ nc') : En (ccl T' nf') nc' c L := h.mono hc (fun _ _ _ _ hj hr => hr.mono hk hj hn)
theorem FnC.keep {G : PG} {T T' : MT} {nf nf' nc nc' k : Nat} {fn : Fn} (h : FnC G T nf nc k fn) (hk : KCc nc T T') (hn : nf ≤ nf') (hc : nc ≤ nc') (h1 : T'.2.2.2 k = T.2.2.2 k) (h2 : T'.2.1 5 k = T.2.1 5 k) : FnC G T' nf' nc' k fn := by
  obtain ⟨xF, rb, F, Bf, s, a1, a2, a3, a4, a5, a6, a7⟩ := h
  exact ⟨xF, rb, F, Bf, s, h1.trans a1, a2, a3, a4, a5, a6, by rw [h2]; exact EnC.keep a7 hk hn hc⟩
theorem tC_kc {T : MT} {nc : Nat} {x c : Int32} {v : Int64} : KCc nc T (tC T nc x v c) := fun j hj => by
  refine ⟨?_, ?_, ?_⟩
  · show rup (T.2.1 0) nc x j = _
    exact rup_ne (by omega)
  · show lup T.2.2.1 nc v j = _
    unfold lup
    rw [if_neg (by omega)]
  · show rup (T.2.1 2) nc c j = _
    exact rup_ne (by omega)
theorem tC_en {T : MT} {nc nf nf' : Nat} {x c : Int32} {v : Val} {L : Env} (h : En (ccl T nf) nc c L) (hv : VOk nf' v) (hn : nf ≤ nf') : En (ccl (tC T nc x (vL v) c) nf') (nc + 1) (nI nc) ((x, v) :: L) := by
  refine ⟨nc, c, by omega, rfl, ⟨?_, ?_, ?_, hv⟩, EnC.keep h tC_kc hn (Nat.le_refl _)⟩
  · show rup (T.2.1 0) nc x nc = _
    exact rup_eq
  · show lup T.2.2.1 nc (vL v) nc = _
    unfold lup
    rw [if_pos rfl]
  · show rup (T.2.1 2) nc c nc = _
    exact rup_eq
theorem tC_1 {T : MT} {nc : Nat} {x c : Int32} {v : Int64} : (tC T nc x v c).1 = rup T.1 3 (nI (nc + 1)) := rfl
theorem tC_rc {G : PG} {T : MT} {nc dp dp' : Nat} {σ : RSt} {x c : Int32} {v : Int64} (h : RC G T nc dp σ) (hd : nc + 1 + dp' ≤ 2 * σ.2.2.1) : RC G (tC T nc x v c) (nc + 1) dp' σ := by
  obtain ⟨a1, a2, a3, a4, a5, a6, a7, a8, a9, a10⟩ := h
  exact ⟨by rw [tC_1, rup_eq], hd, a3, by rw [tC_1, rup_ne (by decide)]; exact a4, a5, by rw [tC_1, rup_ne (by decide)]; exact a6, by rw [tC_1, rup_ne (by decide)]; exact a7, by rw [tC_1, rup_ne (by decide)]; exact a8, a9, fun k hk => (a10 k hk).keep tC_kc (Nat.le_refl _) (Nat.le_succ _) rfl rfl⟩
theorem cVOk {T : MT} {nf : Nat} {y : Int32} : ∀ {L : Env} {b : Nat} {c : Int32}, En (ccl T nf) b c L → VOk nf (look L y)
  | [], _, _, _ => fun z => (by cases z)
  | q :: L, b, c, ⟨j, c', h1, h2, h3, h4⟩ => by
    unfold look
    by_cases e : q.1 = y
    · rw [if_pos e]; exact h3.2.2.2
    · rw [if_neg e]; exact cVOk h4
theorem clkE {T : MT} {nf b : Nat} {c : Int32} {L : Env} {a : Int32 × Int32} (h : En (ccl T nf) b c L) : VOk nf (lkE L a) := by
  unfold lkE
  split
  · exact fun z => (by cases z)
  · exact cVOk h
theorem VOk.k4 {nf : Nat} {v : Val} (h : VOk nf v) (hn : nf ≤ 400) : v.1 = true → ∃ k, k < 400 ∧ v.2 = nI k := fun z => let ⟨k, h1, h2⟩ := h z; ⟨k, by omega, h2⟩
theorem vL_i {nf : Nat} {v : Val} (h : VOk nf v) (hn : nf ≤ 400) : (vL v).toInt32 = v.2 := by
  obtain ⟨b, x⟩ := v
  cases b with
  | true =>
    obtain ⟨k, k1, k2⟩ := h rfl
    simp only at k2
    subst k2
    exact (vL_fun k (by omega)).2.2
  | false => exact vL_int32 x
section M46
variable {E : PE} {d : Nat} {g : PH} {z : Nat} {T : MT} {O : Nat → Nat × Nat} {G : PG}
theorem lp_voa {nf x : Nat} {y1 y : Int32} {y2 : Int32} (hx : (mch g z T).1 x = some (1, [.int y1, .int y])) : ∀ (L : Env) (b looks : Nat) (c : Int32), En (ccl T nf) b c L → b ≤ 800 → looks + L.length ≤ 800 →
    Rk E (d + 1) (116, 20, [some (.ref z), some (.ref x), some (.int y2), some (.int c), some (.int (nI looks))], []) (mch g z T) (some (.long (vL (look L y)))) (mch g z T) := by
  intro L
  induction L with
  | nil =>
    intro b looks c hE hb hl
    have hc : c = -1 := hE
    subst hc
    have e : vL (look [] y) = Int64.ofNat 0 := by show vL (false, 0) = _; decide
    rw [e]
    by_cases h8 : looks < 800
    · refine Rk.tr (F1 := (116, 22, _, _)) (x_iload rfl rfl) ?_
      refine Rk.tr (F1 := (116, 25, _, _)) (x_sipush rfl) ?_
      refine Rk.tr (F1 := (116, 28, _, _)) (x_icF rfl (tg := 65) rfl (show ¬ nI 800 ≤ nI looks from nI_ge (by omega) (by omega))) ?_
      refine Rk.tr (F1 := (116, 29, _, _)) (x_iload_n rfl rfl) ?_
      refine Rk.tr (F1 := (116, 65, _, _)) (x_ifT rfl (tg := 65) rfl (show (-1 : Int32) < 0 by decide)) ?_
      refine Rk.tr (F1 := (116, 66, _, _)) (x_lconst rfl) ?_
      exact Rk.end rfl (Or.inr (Or.inr (Or.inl ⟨rfl, rfl, _, rfl, rfl⟩)))
    · refine Rk.tr (F1 := (116, 22, _, _)) (x_iload rfl rfl) ?_
      refine Rk.tr (F1 := (116, 25, _, _)) (x_sipush rfl) ?_
      refine Rk.tr (F1 := (116, 65, _, _)) (x_icT rfl (tg := 65) rfl (show nI 800 ≤ nI looks from nI_le (by omega) (by omega))) ?_
      refine Rk.tr (F1 := (116, 66, _, _)) (x_lconst rfl) ?_
      exact Rk.end rfl (Or.inr (Or.inr (Or.inl ⟨rfl, rfl, _, rfl, rfl⟩)))
  | cons q L ih =>
    intro b looks c hE hb hl
    obtain ⟨j, c', h1, h2, h3, h4⟩ := hE
    subst h2
    rw [List.length_cons] at hl
    have hj : j < 800 := by omega
    have i0 : (iar 800 (T.2.1 0))[j]? = some (.int q.1) := (iar_at hj).trans (by rw [h3.1])
    have i2 : (iar 800 (T.2.1 2))[j]? = some (.int c') := (iar_at hj).trans (by rw [h3.2.2.1])
    have i1 : (lar 800 T.2.2.1)[j]? = some (.long (vL q.2)) := (lar_at hj).trans (by rw [h3.2.1])
    by_cases e : q.1 = y
    · have el : look (q :: L) y = q.2 := by show (if q.1 = y then _ else _) = _; rw [if_pos e]
      rw [el]
      refine Rk.tr (F1 := (116, 22, _, _)) (x_iload rfl rfl) ?_
      refine Rk.tr (F1 := (116, 25, _, _)) (x_sipush rfl) ?_
      refine Rk.tr (F1 := (116, 28, _, _)) (x_icF rfl (tg := 65) rfl (show ¬ nI 800 ≤ nI looks from nI_ge (by omega) (by omega))) ?_
      refine Rk.tr (F1 := (116, 29, _, _)) (x_iload_n rfl rfl) ?_
      refine Rk.tr (F1 := (116, 32, _, _)) (x_ifF rfl (tg := 65) rfl (show ¬ nI j < nI 0 from Int32.not_lt.mpr (nI_le (by omega) (by omega)))) ?_
      refine Rk.tr (F1 := (116, 33, _, _)) (x_aload_n rfl rfl rfl) ?_
      refine Rk.tr (F1 := (116, 36, _, _)) (x_getf rfl rfl mch_z rfl) ?_
      refine Rk.tr (F1 := (116, 37, _, _)) (x_iload_n rfl rfl) ?_
      refine Rk.tr (F1 := (116, 38, _, _)) (x_iald (n := j) rfl mch_0 rfl rfl (by omega) i0) ?_
      refine Rk.tr (F1 := (116, 39, _, _)) (x_aload_n rfl rfl rfl) ?_
      refine Rk.tr (F1 := (116, 42, _, _)) (x_getf rfl rfl hx rfl) ?_
      refine Rk.tr (F1 := (116, 45, _, _)) (x_icF rfl (tg := 52) rfl (fun z => z e)) ?_
      refine Rk.tr (F1 := (116, 46, _, _)) (x_aload_n rfl rfl rfl) ?_
      refine Rk.tr (F1 := (116, 49, _, _)) (x_getf rfl rfl mch_z rfl) ?_
      refine Rk.tr (F1 := (116, 50, _, _)) (x_iload_n rfl rfl) ?_
      refine Rk.tr (F1 := (116, 51, _, _)) (x_lald (n := j) rfl mch_1 rfl rfl (by omega) i1) ?_
      exact Rk.end rfl (Or.inr (Or.inr (Or.inl ⟨rfl, rfl, _, rfl, rfl⟩)))
    · have el : look (q :: L) y = look L y := by show (if q.1 = y then _ else _) = _; rw [if_neg e]
      rw [el]
      have nxt := ih j (looks + 1) c' h4 (by omega) (by omega)
      rw [← nI_1 looks] at nxt
      refine Rk.tr (F1 := (116, 22, _, _)) (x_iload rfl rfl) ?_
      refine Rk.tr (F1 := (116, 25, _, _)) (x_sipush rfl) ?_
      refine Rk.tr (F1 := (116, 28, _, _)) (x_icF rfl (tg := 65) rfl (show ¬ nI 800 ≤ nI looks from nI_ge (by omega) (by omega))) ?_
      refine Rk.tr (F1 := (116, 29, _, _)) (x_iload_n rfl rfl) ?_
      refine Rk.tr (F1 := (116, 32, _, _)) (x_ifF rfl (tg := 65) rfl (show ¬ nI j < nI 0 from Int32.not_lt.mpr (nI_le (by omega) (by omega)))) ?_
      refine Rk.tr (F1 := (116, 33, _, _)) (x_aload_n rfl rfl rfl) ?_
      refine Rk.tr (F1 := (116, 36, _, _)) (x_getf rfl rfl mch_z rfl) ?_
      refine Rk.tr (F1 := (116, 37, _, _)) (x_iload_n rfl rfl) ?_
      refine Rk.tr (F1 := (116, 38, _, _)) (x_iald (n := j) rfl mch_0 rfl rfl (by omega) i0) ?_
      refine Rk.tr (F1 := (116, 39, _, _)) (x_aload_n rfl rfl rfl) ?_
      refine Rk.tr (F1 := (116, 42, _, _)) (x_getf rfl rfl hx rfl) ?_
      refine Rk.tr (F1 := (116, 52, _, _)) (x_icT rfl (tg := 52) rfl e) ?_
      refine Rk.tr (F1 := (116, 53, _, _)) (x_aload_n rfl rfl rfl) ?_
      refine Rk.tr (F1 := (116, 56, _, _)) (x_getf rfl rfl mch_z rfl) ?_
      refine Rk.tr (F1 := (116, 57, _, _)) (x_iload_n rfl rfl) ?_
      refine Rk.tr (F1 := (116, 58, _, _)) (x_iald (n := j) rfl mch_2 rfl rfl (by omega) i2) ?_
      refine Rk.tr (F1 := (116, 59, [_, _, _, _, _], _)) (x_istore_n (i := 3) rfl (Nat.le_of_ble_eq_true rfl)) ?_
      refine Rk.tr (F1 := (116, 62, [_, _, _, _, _], _)) (x_iinc (i := 4) rfl rfl) ?_
      refine Rk.tr (F1 := (116, 20, _, _)) (x_goto rfl rfl) ?_
      exact nxt
theorem c_voa {nf x b : Nat} {a : Int32 × Int32} {c : Int32} {L : Env} (hx : AtH (mch g z T) x a) (hE : En (ccl T nf) b c L) (hb : b ≤ 800) : Rn E (d + 1) 116 [.ref z, .ref x, .int c] (mch g z T) (some (.long (vL (lkE L a)))) (mch g z T) := by
  obtain ⟨a1, a2⟩ := a
  have hx1 := hx.1
  refine Rn.of (Nat.le_of_ble_eq_true rfl) ?_
  by_cases h0 : a1 = 0
  · have e : lkE L (a1, a2) = (false, a2) := by unfold lkE; rw [if_pos h0]
    rw [e]
    have ci := c_intv (E := E) (d := d) (h := mch g z T) (x := a2)
    refine Rk.tr (F1 := (116, 1, _, _)) (x_aload_n rfl rfl rfl) ?_
    refine Rk.tr (F1 := (116, 4, _, _)) (x_getf rfl rfl hx1 rfl) ?_
    refine Rk.tr (F1 := (116, 7, _, _)) (x_ifF rfl (tg := 15) rfl (fun z => z h0)) ?_
    refine Rk.tr (F1 := (116, 8, _, _)) (x_aload_n rfl rfl rfl) ?_
    refine Rk.tr (F1 := (116, 11, _, _)) (x_getf rfl rfl hx1 rfl) ?_
    refine Rk.tr (F1 := (116, 14, _, _)) (x_calls (As := [_]) rfl rfl rfl rfl rfl rfl (Nat.le_of_ble_eq_true rfl) ci rfl) ?_
    exact Rk.end rfl (Or.inr (Or.inr (Or.inl ⟨rfl, rfl, _, rfl, rfl⟩)))
  · have e : lkE L (a1, a2) = look L a2 := by unfold lkE; rw [if_neg h0]
    rw [e]
    have key := lp_voa (E := E) (d := d) (y2 := c) hx1 L b 0 c hE hb (by have := hE.len; omega)
    refine Rk.tr (F1 := (116, 1, _, _)) (x_aload_n rfl rfl rfl) ?_
    refine Rk.tr (F1 := (116, 4, _, _)) (x_getf rfl rfl hx1 rfl) ?_
    refine Rk.tr (F1 := (116, 15, _, _)) (x_ifT rfl (tg := 15) rfl h0) ?_
    refine Rk.tr (F1 := (116, 16, _, _)) (x_iload_n rfl rfl) ?_
    refine Rk.tr (F1 := (116, 17, [_, _, _, _, _], _)) (x_istore_n (i := 3) rfl (Nat.le_of_ble_eq_true rfl)) ?_
    refine Rk.tr (F1 := (116, 18, _, _)) (x_iconst rfl) ?_
    refine Rk.tr (F1 := (116, 20, [_, _, _, _, _], _)) (x_istore (i := 4) rfl (Nat.le_of_ble_eq_true rfl)) ?_
    exact key
/-- a function is made -/
def tM (T : MT) (nf x : Nat) (c : Int32) : MT := tI (tN (tF T nf (.ref x)) 5 nf c) 6 (nI (nf + 1))
theorem c_newf {nf x : Nat} {c : Int32} {ys : List Value} (h6 : T.1 6 = nI nf) (hn : nf < 400) (hx : ∀ T, (mch g z T).1 x = some (2, ys)) : Rn E d 114 [.ref z, .ref x, .int c] (mch g z T) (some (.long (vL (true, nI nf)))) (mch g z (tM T nf x c)) := by
  have z0 : ∀ T' : MT, T'.1 = T.1 → (mch g z T').1 z = some (4, [.ref (z + 1), .ref (z + 2), .ref (z + 3), .int (T.1 3), .ref (z + 4), .ref (z + 5), .int (nI nf), .int (T.1 7), .int (T.1 8), .int (T.1 9), .int (T.1 10), .int (T.1 11)]) := fun T' h' => by
    rw [mch_z]
    unfold mcf
    rw [h', h6]
  have z9 : (mch g z (tM T nf x c)).1 z = some (4, [.ref (z + 1), .ref (z + 2), .ref (z + 3), .int (T.1 3), .ref (z + 4), .ref (z + 5), .int (nI (nf + 1)), .int (T.1 7), .int (T.1 8), .int (T.1 9), .int (T.1 10), .int (T.1 11)]) := mch_z
  have e : vL (true, nI nf) = Int64.ofInt 4294967296 + (nI (nf + 1)).toInt64 - Int64.ofNat 1 := (vL_fun nf hn).1.symm
  rw [e]
  refine Rn.of (Nat.le_of_ble_eq_true rfl) ?_
  refine Rk.tr (F1 := (114, 1, _, _)) (x_aload_n rfl rfl rfl) ?_
  refine Rk.tr (F1 := (114, 4, _, _)) (x_getf rfl rfl (z0 T rfl) rfl) ?_
  refine Rk.tr (F1 := (114, 7, _, _)) (x_sipush rfl) ?_
  refine Rk.tr (F1 := (114, 12, _, _)) (x_icT rfl (tg := 12) rfl (show nI nf < nI 400 from Int32.not_le.mp (nI_ge (by omega) (by omega)))) ?_
  refine Rk.tr (F1 := (114, 13, _, _)) (x_aload_n rfl rfl rfl) ?_
  refine Rk.tr (F1 := (114, 16, _, _)) (x_getf rfl rfl (z0 T rfl) rfl) ?_
  refine Rk.tr (F1 := (114, 17, _, _)) (x_aload_n rfl rfl rfl) ?_
  refine Rk.tr (F1 := (114, 20, _, _)) (x_getf rfl rfl (z0 T rfl) rfl) ?_
  refine Rk.tr (F1 := (114, 21, _, _)) (x_aload_n rfl rfl rfl) ?_
  refine Rk.tr (F1 := (114, 22, _, _)) (mc_F rfl (hx _) rfl hn) ?_
  refine Rk.tr (F1 := (114, 23, _, _)) (x_aload_n rfl rfl rfl) ?_
  refine Rk.tr (F1 := (114, 26, _, _)) (x_getf rfl rfl (z0 _ rfl) rfl) ?_
  refine Rk.tr (F1 := (114, 27, _, _)) (x_aload_n rfl rfl rfl) ?_
  refine Rk.tr (F1 := (114, 30, _, _)) (x_getf rfl rfl (z0 _ rfl) rfl) ?_
  refine Rk.tr (F1 := (114, 31, _, _)) (x_iload_n rfl rfl) ?_
  refine Rk.tr (F1 := (114, 32, _, _)) (mc_N5 rfl rfl hn) ?_
  refine Rk.tr (F1 := (114, 33, _, _)) (x_aload_n rfl rfl rfl) ?_
  refine Rk.tr (F1 := (114, 34, _, _)) (x_dup rfl rfl) ?_
  refine Rk.tr (F1 := (114, 37, _, _)) (x_getf rfl rfl (z0 _ rfl) rfl) ?_
  refine Rk.tr (F1 := (114, 38, _, _)) (x_iconst rfl) ?_
  refine Rk.tr (F1 := (114, 39, _, _)) (x_iadd rfl) ?_
  refine Rk.tr (F1 := (114, 39, _, _)) (x_top (nI_1 nf)) ?_
  refine Rk.tr (F1 := (114, 42, _, _)) (mc_put rfl rfl rfl rfl rfl rfl) ?_
  refine Rk.tr (F1 := (114, 45, _, _)) (x_ldc2 rfl rfl) ?_
  refine Rk.tr (F1 := (114, 46, _, _)) (x_aload_n rfl rfl rfl) ?_
  refine Rk.tr (F1 := (114, 49, _, _)) (x_getf rfl rfl z9 rfl) ?_
  refine Rk.tr (F1 := (114, 50, _, _)) (x_i2l rfl) ?_
  refine Rk.tr (F1 := (114, 51, _, _)) (x_ladd rfl) ?_
  refine Rk.tr (F1 := (114, 52, _, _)) (x_lconst rfl) ?_
  refine Rk.tr (F1 := (114, 53, _, _)) (x_lsub rfl) ?_
  exact Rk.end rfl (Or.inr (Or.inr (Or.inl ⟨rfl, rfl, _, rfl, rfl⟩)))
theorem atoms_at (hG : ∀ T, GH E (mch g z T) O G) {x : Nat} {it : It} {rs : List Nat} (hx : G.2 x = some (it, rs)) : ∃ (at0 ar : Nat) (xs : List Nat) (dt : Int32), (∀ T, (mch g z T).1 x = some (2, [.int it.2.1, .int (ikd it), .int dt, .ref at0, .ref ar])) ∧ (it.1 = 2 ∨ it.1 = 5 → dt = it.2.2.1) ∧ (∀ T, (mch g z T).1 at0 = some (103, refs xs)) ∧ xs.length = iat it ∧ (∀ j y, xs[j]? = some y → ∀ T, AtH (mch g z T) y (iatm it j)) ∧ (∀ T, (mch g z T).1 ar = some (104, refs rs)) := by
  obtain ⟨at0, ar, xs, dt, b1, b2, b3, b4, b5, b6, b7, b8⟩ := (hG (fun _ => 0, fun _ _ => 0, fun _ => 0, fun _ => .null)).2.2.2 x it rs hx
  exact ⟨at0, ar, xs, dt, fun T' => mch_same b1 (by decide) (by decide) (by decide) (by decide), b2, fun T' => mch_same b3 (by decide) (by decide) (by decide) (by decide), b4, fun j y hj T' => ⟨mch_same (b5 j y hj).1 (by decide) (by decide) (by decide) (by decide), (b5 j y hj).2⟩, fun T' => mch_same b7 (by decide) (by decide) (by decide) (by decide)⟩
theorem c_vop (hG : ∀ T, GH E (mch g z T) O G) {x nf b : Nat} {it : It} {rs : List Nat} {c : Int32} {L : Env} (hx : G.2 x = some (it, rs)) (h5 : it.1 = 5) (hE : En (ccl T nf) b c L) (hb : b ≤ 800) (hn : nf ≤ 400) :
    Rn E (d + 2) 120 [.ref z, .ref x, .int c] (mch g z T) (some (.long (if (lkE L it.2.2.2.1).1 = true ∨ (lkE L it.2.2.2.2).1 = true then 0 else if it.2.2.1 = 3 ∧ (lkE L it.2.2.2.2).2 = 0 then 0 else vL (false, opv it.2.2.1 (lkE L it.2.2.2.1).2 (lkE L it.2.2.2.2).2)))) (mch g z (if (lkE L it.2.2.2.1).1 = true ∨ (lkE L it.2.2.2.2).1 = true then tI T 7 2 else if it.2.2.1 = 3 ∧ (lkE L it.2.2.2.2).2 = 0 then tI T 7 3 else T)) := by
  obtain ⟨at0, ar, xs, dt, b1, b2, b3, b4, b5, b6⟩ := atoms_at hG hx
  have hi : iat it = 2 := by unfold iat; rw [h5]; rfl
  obtain ⟨z1, z2, ez⟩ := two_of (b4.trans hi)
  subst ez
  have ed := b2 (Or.inr h5)
  subst ed
  have q1 := c_voa (E := E) (d := d) (b5 0 z1 rfl T) hE hb
  have q2 := c_voa (E := E) (d := d) (b5 1 z2 rfl T) hE hb
  have ea : iatm it 0 = it.2.2.2.1 := rfl
  have eb : iatm it 1 = it.2.2.2.2 := rfl
  rw [ea] at q1
  rw [eb] at q2
  have o1 : VOk nf (lkE L it.2.2.2.1) := clkE hE
  have o2 : VOk nf (lkE L it.2.2.2.2) := clkE hE
  have i1 := vL_i o1 hn
  have i2 := vL_i o2 hn
  have f1 := c_isf (E := E) (d := d + 1) (h := mch g z T) (o1.k4 hn)
  have f2 := c_isf (E := E) (d := d + 1) (h := mch g z T) (o2.k4 hn)
  generalize lkE L it.2.2.2.1 = v1 at *
  generalize lkE L it.2.2.2.2 = v2 at *
  have e2 := c_endw (E := E) (d := d + 1) (g := g) (z := z) (T := T) (k := 2)
  have e3 := c_endw (E := E) (d := d + 1) (g := g) (z := z) (T := T) (k := 3)
  have b1T := b1 T
  have b3T := b3 T
  refine Rn.of (Nat.le_of_ble_eq_true rfl) ?_
  by_cases h1 : v1.1 = true
  · rw [if_pos (Or.inl h1), if_pos (Or.inl h1)]
    rw [h1] at f1
    refine Rk.tr (F1 := (120, 1, _, _)) (x_aload_n rfl rfl rfl) ?_
    refine Rk.tr (F1 := (120, 2, _, _)) (x_aload_n rfl rfl rfl) ?_
    refine Rk.tr (F1 := (120, 5, _, _)) (x_getf rfl rfl b1T rfl) ?_
    refine Rk.tr (F1 := (120, 6, _, _)) (x_iconst rfl) ?_
    refine Rk.tr (F1 := (120, 7, _, _)) (x_aald (n := 0) rfl b3T rfl rfl rfl (by omega) rfl) ?_
    refine Rk.tr (F1 := (120, 8, _, _)) (x_iload_n rfl rfl) ?_
    refine Rk.tr (F1 := (120, 11, _, _)) (x_callv (As := [_, _]) rfl rfl rfl (Or.inr rfl) rfl rfl mch_z (by decide) rfl (Nat.le_of_ble_eq_true rfl) q1 rfl) ?_
    refine Rk.tr (F1 := (120, 12, [_, _, _, _, _, _, _], _)) (x_lstore_n (i := 3) rfl (Nat.le_of_ble_eq_true rfl)) ?_
    refine Rk.tr (F1 := (120, 13, _, _)) (x_aload_n rfl rfl rfl) ?_
    refine Rk.tr (F1 := (120, 14, _, _)) (x_aload_n rfl rfl rfl) ?_
    refine Rk.tr (F1 := (120, 17, _, _)) (x_getf rfl rfl b1T rfl) ?_
    refine Rk.tr (F1 := (120, 18, _, _)) (x_iconst rfl) ?_
    refine Rk.tr (F1 := (120, 19, _, _)) (x_aald (n := 1) rfl b3T rfl rfl rfl (by omega) rfl) ?_
    refine Rk.tr (F1 := (120, 20, _, _)) (x_iload_n rfl rfl) ?_
    refine Rk.tr (F1 := (120, 23, _, _)) (x_callv (As := [_, _]) rfl rfl rfl (Or.inr rfl) rfl rfl mch_z (by decide) rfl (Nat.le_of_ble_eq_true rfl) q2 rfl) ?_
    refine Rk.tr (F1 := (120, 25, [_, _, _, _, _, _, _], _)) (x_lstore (i := 5) rfl (Nat.le_of_ble_eq_true rfl)) ?_
    refine Rk.tr (F1 := (120, 26, _, _)) (x_lload_n rfl rfl) ?_
    refine Rk.tr (F1 := (120, 29, _, _)) (x_calls (As := [_]) rfl rfl rfl rfl rfl rfl (Nat.le_of_ble_eq_true rfl) f1 rfl) ?_
    refine Rk.tr (F1 := (120, 40, _, _)) (x_ifT rfl (tg := 40) rfl (show ¬ (1 : Int32) = 0 by decide)) ?_
    refine Rk.tr (F1 := (120, 41, _, _)) (x_aload_n rfl rfl rfl) ?_
    refine Rk.tr (F1 := (120, 42, _, _)) (x_iconst rfl) ?_
    refine Rk.tr (F1 := (120, 45, _, _)) (x_callv (As := [_]) rfl rfl rfl (Or.inr rfl) rfl rfl mch_z (by decide) rfl (Nat.le_of_ble_eq_true rfl) e2 rfl) ?_
    exact Rk.end rfl (Or.inr (Or.inr (Or.inl ⟨rfl, rfl, _, rfl, rfl⟩)))
  · have h1' : v1.1 = false := by cases hh : v1.1 <;> simp_all
    rw [h1'] at f1
    by_cases h2 : v2.1 = true
    · rw [if_pos (Or.inr h2), if_pos (Or.inr h2)]
      rw [h2] at f2
      refine Rk.tr (F1 := (120, 1, _, _)) (x_aload_n rfl rfl rfl) ?_
      refine Rk.tr (F1 := (120, 2, _, _)) (x_aload_n rfl rfl rfl) ?_
      refine Rk.tr (F1 := (120, 5, _, _)) (x_getf rfl rfl b1T rfl) ?_
      refine Rk.tr (F1 := (120, 6, _, _)) (x_iconst rfl) ?_
      refine Rk.tr (F1 := (120, 7, _, _)) (x_aald (n := 0) rfl b3T rfl rfl rfl (by omega) rfl) ?_
      refine Rk.tr (F1 := (120, 8, _, _)) (x_iload_n rfl rfl) ?_
      refine Rk.tr (F1 := (120, 11, _, _)) (x_callv (As := [_, _]) rfl rfl rfl (Or.inr rfl) rfl rfl mch_z (by decide) rfl (Nat.le_of_ble_eq_true rfl) q1 rfl) ?_
      refine Rk.tr (F1 := (120, 12, [_, _, _, _, _, _, _], _)) (x_lstore_n (i := 3) rfl (Nat.le_of_ble_eq_true rfl)) ?_
      refine Rk.tr (F1 := (120, 13, _, _)) (x_aload_n rfl rfl rfl) ?_
      refine Rk.tr (F1 := (120, 14, _, _)) (x_aload_n rfl rfl rfl) ?_
      refine Rk.tr (F1 := (120, 17, _, _)) (x_getf rfl rfl b1T rfl) ?_
      refine Rk.tr (F1 := (120, 18, _, _)) (x_iconst rfl) ?_
      refine Rk.tr (F1 := (120, 19, _, _)) (x_aald (n := 1) rfl b3T rfl rfl rfl (by omega) rfl) ?_
      refine Rk.tr (F1 := (120, 20, _, _)) (x_iload_n rfl rfl) ?_
      refine Rk.tr (F1 := (120, 23, _, _)) (x_callv (As := [_, _]) rfl rfl rfl (Or.inr rfl) rfl rfl mch_z (by decide) rfl (Nat.le_of_ble_eq_true rfl) q2 rfl) ?_
      refine Rk.tr (F1 := (120, 25, [_, _, _, _, _, _, _], _)) (x_lstore (i := 5) rfl (Nat.le_of_ble_eq_true rfl)) ?_
      refine Rk.tr (F1 := (120, 26, _, _)) (x_lload_n rfl rfl) ?_
      refine Rk.tr (F1 := (120, 29, _, _)) (x_calls (As := [_]) rfl rfl rfl rfl rfl rfl (Nat.le_of_ble_eq_true rfl) f1 rfl) ?_
      refine Rk.tr (F1 := (120, 32, _, _)) (x_ifF rfl (tg := 40) rfl (fun q => q rfl)) ?_
      refine Rk.tr (F1 := (120, 34, _, _)) (x_lload rfl rfl) ?_
      refine Rk.tr (F1 := (120, 37, _, _)) (x_calls (As := [_]) rfl rfl rfl rfl rfl rfl (Nat.le_of_ble_eq_true rfl) f2 rfl) ?_
      refine Rk.tr (F1 := (120, 40, _, _)) (x_ifF rfl (tg := 46) rfl (show ¬ (1 : Int32) = 0 by decide)) ?_
      refine Rk.tr (F1 := (120, 41, _, _)) (x_aload_n rfl rfl rfl) ?_
      refine Rk.tr (F1 := (120, 42, _, _)) (x_iconst rfl) ?_
      refine Rk.tr (F1 := (120, 45, _, _)) (x_callv (As := [_]) rfl rfl rfl (Or.inr rfl) rfl rfl mch_z (by decide) rfl (Nat.le_of_ble_eq_true rfl) e2 rfl) ?_
      exact Rk.end rfl (Or.inr (Or.inr (Or.inl ⟨rfl, rfl, _, rfl, rfl⟩)))
    · have h2' : v2.1 = false := by cases hh : v2.1 <;> simp_all
      rw [h2'] at f2
      have hno : ¬ (v1.1 = true ∨ v2.1 = true) := fun z => z.elim h1 h2
      rw [if_neg hno, if_neg hno]
      have dz := c_divz (E := E) (d := d + 1) (h := mch g z T) (o := it.2.2.1) (b := v2.2)
      by_cases h3 : it.2.2.1 = 3 ∧ v2.2 = 0
      · rw [if_pos h3, if_pos h3]
        rw [if_pos h3] at dz
        refine Rk.tr (F1 := (120, 1, _, _)) (x_aload_n rfl rfl rfl) ?_
        refine Rk.tr (F1 := (120, 2, _, _)) (x_aload_n rfl rfl rfl) ?_
        refine Rk.tr (F1 := (120, 5, _, _)) (x_getf rfl rfl b1T rfl) ?_
        refine Rk.tr (F1 := (120, 6, _, _)) (x_iconst rfl) ?_
        refine Rk.tr (F1 := (120, 7, _, _)) (x_aald (n := 0) rfl b3T rfl rfl rfl (by omega) rfl) ?_
        refine Rk.tr (F1 := (120, 8, _, _)) (x_iload_n rfl rfl) ?_
        refine Rk.tr (F1 := (120, 11, _, _)) (x_callv (As := [_, _]) rfl rfl rfl (Or.inr rfl) rfl rfl mch_z (by decide) rfl (Nat.le_of_ble_eq_true rfl) q1 rfl) ?_
        refine Rk.tr (F1 := (120, 12, [_, _, _, _, _, _, _], _)) (x_lstore_n (i := 3) rfl (Nat.le_of_ble_eq_true rfl)) ?_
        refine Rk.tr (F1 := (120, 13, _, _)) (x_aload_n rfl rfl rfl) ?_
        refine Rk.tr (F1 := (120, 14, _, _)) (x_aload_n rfl rfl rfl) ?_
        refine Rk.tr (F1 := (120, 17, _, _)) (x_getf rfl rfl b1T rfl) ?_
        refine Rk.tr (F1 := (120, 18, _, _)) (x_iconst rfl) ?_
        refine Rk.tr (F1 := (120, 19, _, _)) (x_aald (n := 1) rfl b3T rfl rfl rfl (by omega) rfl) ?_
        refine Rk.tr (F1 := (120, 20, _, _)) (x_iload_n rfl rfl) ?_
        refine Rk.tr (F1 := (120, 23, _, _)) (x_callv (As := [_, _]) rfl rfl rfl (Or.inr rfl) rfl rfl mch_z (by decide) rfl (Nat.le_of_ble_eq_true rfl) q2 rfl) ?_
        refine Rk.tr (F1 := (120, 25, [_, _, _, _, _, _, _], _)) (x_lstore (i := 5) rfl (Nat.le_of_ble_eq_true rfl)) ?_
        refine Rk.tr (F1 := (120, 26, _, _)) (x_lload_n rfl rfl) ?_
        refine Rk.tr (F1 := (120, 29, _, _)) (x_calls (As := [_]) rfl rfl rfl rfl rfl rfl (Nat.le_of_ble_eq_true rfl) f1 rfl) ?_
        refine Rk.tr (F1 := (120, 32, _, _)) (x_ifF rfl (tg := 40) rfl (fun q => q rfl)) ?_
        refine Rk.tr (F1 := (120, 34, _, _)) (x_lload rfl rfl) ?_
        refine Rk.tr (F1 := (120, 37, _, _)) (x_calls (As := [_]) rfl rfl rfl rfl rfl rfl (Nat.le_of_ble_eq_true rfl) f2 rfl) ?_
        refine Rk.tr (F1 := (120, 46, _, _)) (x_ifT rfl (tg := 46) rfl rfl) ?_
        refine Rk.tr (F1 := (120, 47, _, _)) (x_aload_n rfl rfl rfl) ?_
        refine Rk.tr (F1 := (120, 50, _, _)) (x_getf rfl rfl b1T rfl) ?_
        refine Rk.tr (F1 := (120, 52, _, _)) (x_lload rfl rfl) ?_
        refine Rk.tr (F1 := (120, 53, _, _)) (x_l2i rfl) ?_
        refine Rk.tr (F1 := (120, 53, _, _)) (x_top i2) ?_
        refine Rk.tr (F1 := (120, 56, _, _)) (x_calln (As := [_, _]) rfl rfl rfl rfl rfl rfl (Nat.le_of_ble_eq_true rfl) dz rfl) ?_
        refine Rk.tr (F1 := (120, 59, _, _)) (x_ifF rfl (tg := 65) rfl (show ¬ (1 : Int32) = 0 by decide)) ?_
        refine Rk.tr (F1 := (120, 60, _, _)) (x_aload_n rfl rfl rfl) ?_
        refine Rk.tr (F1 := (120, 61, _, _)) (x_iconst rfl) ?_
        refine Rk.tr (F1 := (120, 64, _, _)) (x_callv (As := [_]) rfl rfl rfl (Or.inr rfl) rfl rfl mch_z (by decide) rfl (Nat.le_of_ble_eq_true rfl) e3 rfl) ?_
        exact Rk.end rfl (Or.inr (Or.inr (Or.inl ⟨rfl, rfl, _, rfl, rfl⟩)))
      · rw [if_neg h3, if_neg h3]
        rw [if_neg h3] at dz
        have ca := c_calc (E := E) (d := d + 1) (h := mch g z T) (x := it.2.2.1) (a := v1.2) (b := v2.2) (fun q w => h3 ⟨q, w⟩)
        have ci := c_intv (E := E) (d := d + 1) (h := mch g z T) (x := opv it.2.2.1 v1.2 v2.2)
        refine Rk.tr (F1 := (120, 1, _, _)) (x_aload_n rfl rfl rfl) ?_
        refine Rk.tr (F1 := (120, 2, _, _)) (x_aload_n rfl rfl rfl) ?_
        refine Rk.tr (F1 := (120, 5, _, _)) (x_getf rfl rfl b1T rfl) ?_
        refine Rk.tr (F1 := (120, 6, _, _)) (x_iconst rfl) ?_
        refine Rk.tr (F1 := (120, 7, _, _)) (x_aald (n := 0) rfl b3T rfl rfl rfl (by omega) rfl) ?_
        refine Rk.tr (F1 := (120, 8, _, _)) (x_iload_n rfl rfl) ?_
        refine Rk.tr (F1 := (120, 11, _, _)) (x_callv (As := [_, _]) rfl rfl rfl (Or.inr rfl) rfl rfl mch_z (by decide) rfl (Nat.le_of_ble_eq_true rfl) q1 rfl) ?_
        refine Rk.tr (F1 := (120, 12, [_, _, _, _, _, _, _], _)) (x_lstore_n (i := 3) rfl (Nat.le_of_ble_eq_true rfl)) ?_
        refine Rk.tr (F1 := (120, 13, _, _)) (x_aload_n rfl rfl rfl) ?_
        refine Rk.tr (F1 := (120, 14, _, _)) (x_aload_n rfl rfl rfl) ?_
        refine Rk.tr (F1 := (120, 17, _, _)) (x_getf rfl rfl b1T rfl) ?_
        refine Rk.tr (F1 := (120, 18, _, _)) (x_iconst rfl) ?_
        refine Rk.tr (F1 := (120, 19, _, _)) (x_aald (n := 1) rfl b3T rfl rfl rfl (by omega) rfl) ?_
        refine Rk.tr (F1 := (120, 20, _, _)) (x_iload_n rfl rfl) ?_
        refine Rk.tr (F1 := (120, 23, _, _)) (x_callv (As := [_, _]) rfl rfl rfl (Or.inr rfl) rfl rfl mch_z (by decide) rfl (Nat.le_of_ble_eq_true rfl) q2 rfl) ?_
        refine Rk.tr (F1 := (120, 25, [_, _, _, _, _, _, _], _)) (x_lstore (i := 5) rfl (Nat.le_of_ble_eq_true rfl)) ?_
        refine Rk.tr (F1 := (120, 26, _, _)) (x_lload_n rfl rfl) ?_
        refine Rk.tr (F1 := (120, 29, _, _)) (x_calls (As := [_]) rfl rfl rfl rfl rfl rfl (Nat.le_of_ble_eq_true rfl) f1 rfl) ?_
        refine Rk.tr (F1 := (120, 32, _, _)) (x_ifF rfl (tg := 40) rfl (fun q => q rfl)) ?_
        refine Rk.tr (F1 := (120, 34, _, _)) (x_lload rfl rfl) ?_
        refine Rk.tr (F1 := (120, 37, _, _)) (x_calls (As := [_]) rfl rfl rfl rfl rfl rfl (Nat.le_of_ble_eq_true rfl) f2 rfl) ?_
        refine Rk.tr (F1 := (120, 46, _, _)) (x_ifT rfl (tg := 46) rfl rfl) ?_
        refine Rk.tr (F1 := (120, 47, _, _)) (x_aload_n rfl rfl rfl) ?_
        refine Rk.tr (F1 := (120, 50, _, _)) (x_getf rfl rfl b1T rfl) ?_
        refine Rk.tr (F1 := (120, 52, _, _)) (x_lload rfl rfl) ?_
        refine Rk.tr (F1 := (120, 53, _, _)) (x_l2i rfl) ?_
        refine Rk.tr (F1 := (120, 53, _, _)) (x_top i2) ?_
        refine Rk.tr (F1 := (120, 56, _, _)) (x_calln (As := [_, _]) rfl rfl rfl rfl rfl rfl (Nat.le_of_ble_eq_true rfl) dz rfl) ?_
        refine Rk.tr (F1 := (120, 65, _, _)) (x_ifT rfl (tg := 65) rfl rfl) ?_
        refine Rk.tr (F1 := (120, 66, _, _)) (x_aload_n rfl rfl rfl) ?_
        refine Rk.tr (F1 := (120, 69, _, _)) (x_getf rfl rfl b1T rfl) ?_
        refine Rk.tr (F1 := (120, 70, _, _)) (x_lload_n rfl rfl) ?_
        refine Rk.tr (F1 := (120, 71, _, _)) (x_l2i rfl) ?_
        refine Rk.tr (F1 := (120, 71, _, _)) (x_top i1) ?_
        refine Rk.tr (F1 := (120, 73, _, _)) (x_lload rfl rfl) ?_
        refine Rk.tr (F1 := (120, 74, _, _)) (x_l2i rfl) ?_
        refine Rk.tr (F1 := (120, 74, _, _)) (x_top i2) ?_
        refine Rk.tr (F1 := (120, 77, _, _)) (x_calln (As := [_, _, _]) rfl rfl rfl rfl rfl rfl (Nat.le_of_ble_eq_true rfl) ca rfl) ?_
        refine Rk.tr (F1 := (120, 80, _, _)) (x_calls (As := [_]) rfl rfl rfl rfl rfl rfl (Nat.le_of_ble_eq_true rfl) ci rfl) ?_
        exact Rk.end rfl (Or.inr (Or.inr (Or.inl ⟨rfl, rfl, _, rfl, rfl⟩)))
end M46
