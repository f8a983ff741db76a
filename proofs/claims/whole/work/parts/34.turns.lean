/-! ===== the reference's conversion: what each turn does to its state ===== -/
def ckI (k : Nat) : Bool := [9, 10, 17, 18, 21, 22, 23, 24].contains k
def ckA (k : Nat) : Bool := [11, 12, 13, 14, 15, 16, 19, 20, 25].contains k
/-- what the conversion doesn't touch -/
def out (S : MSt) : MSt := (fun k => if ckI k = true then 0 else S.1 k, fun k n => if ckA k = true then 0 else S.2 k n)
theorem out_I {S : MSt} {k : Nat} {x : Int32} (h : ckI k = true) : out (msI S k x) = out S := by
  refine Prod.ext (funext fun j => ?_) rfl
  show (if ckI j = true then 0 else if j = k then x else S.1 j) = (if ckI j = true then 0 else S.1 j)
  by_cases e : j = k
  · rw [if_pos (by rw [e]; exact h), if_pos (by rw [e]; exact h)]
  · rw [if_neg e]
theorem out_A {S : MSt} {k m : Nat} {x : Int32} (h : ckA k = true) : out (msA S k m x) = out S := by
  refine Prod.ext rfl (funext fun j => funext fun i => ?_)
  show (if ckA j = true then 0 else if j = k ∧ i = m then x else S.2 j i) = (if ckA j = true then 0 else S.2 j i)
  by_cases e : j = k
  · rw [if_pos (by rw [e]; exact h), if_pos (by rw [e]; exact h)]
  · rw [if_neg (show ¬ (j = k ∧ i = m) from fun z => e z.1)]
theorem out_i {S S' : MSt} (h : out S' = out S) {k : Nat} (hk : ckI k = false) : S'.1 k = S.1 k := by
  have := congrFun (congrArg Prod.fst h) k
  simp only [out, hk, Bool.false_eq_true, if_false] at this
  exact this
theorem out_a {S S' : MSt} (h : out S' = out S) {k : Nat} (hk : ckA k = false) : S'.2 k = S.2 k := by
  funext n
  have := congrFun (congrFun (congrArg Prod.snd h) k) n
  simp only [out, hk, Bool.false_eq_true, if_false] at this
  exact this
/-- kept: what lies below q in the frames' arrays, below dr in the draft, and outside -/
def KA (q dr : Nat) (S S' : MSt) : Prop := out S' = out S ∧ (∀ k, 11 ≤ k → k ≤ 16 → ∀ j, j ≤ q → S'.2 k j = S.2 k j) ∧ (∀ j, j < dr → S'.2 25 j = S.2 25 j)
theorem KA.tr {q dr q' dr' : Nat} {S S1 S2 : MSt} (h : KA q dr S S1) (h' : KA q' dr' S1 S2) (hq : q ≤ q') (hd : dr ≤ dr') : KA q dr S S2 :=
  ⟨h'.1.trans h.1, fun k a b j hj => (h'.2.1 k a b j (Nat.le_trans hj hq)).trans (h.2.1 k a b j hj), fun j hj => (h'.2.2 j (Nat.lt_of_lt_of_le hj hd)).trans (h.2.2 j hj)⟩
theorem KA.rf {q dr : Nat} {S : MSt} : KA q dr S S := ⟨rfl, fun _ _ _ _ _ => rfl, fun _ _ => rfl⟩
theorem KA.I {q dr k : Nat} {S S0 : MSt} {x : Int32} (h : KA q dr S0 S) (hk : ckI k = true) : KA q dr S0 (msI S k x) := ⟨(out_I hk).trans h.1, h.2.1, h.2.2⟩
theorem KA.A {q dr k m : Nat} {S S0 : MSt} {x : Int32} (h : KA q dr S0 S) (hk : ckA k = true) (hm : k = 19 ∨ k = 20 ∨ (k = 25 ∧ dr ≤ m) ∨ (11 ≤ k ∧ k ≤ 16 ∧ q < m)) : KA q dr S0 (msA S k m x) := by
  refine ⟨(out_A hk).trans h.1, fun j a b i hi => ?_, fun i hi => ?_⟩
  · have : ¬ (j = k ∧ i = m) := fun z => by omega
    exact (if_neg this).trans (h.2.1 j a b i hi)
  · have : ¬ (25 = k ∧ i = m) := fun z => by omega
    exact (if_neg this).trans (h.2.2 i hi)
def CS (n p q dr k dp D : Nat) (S : MSt) : Prop := S.1 1 = nI n ∧ S.1 9 = nI p ∧ S.1 10 = nI q ∧ S.1 23 = nI dr ∧ S.1 24 = nI k ∧ S.1 21 = nI dp ∧ S.1 22 = nI D
theorem mE {S : MSt} {m : Nat} {v : Int32} (h : S.1 23 = nI m) (hm : m < 2 ^ 31) : mEmit S v = msI (msA S 25 m v) 23 (nI (m + 1)) := by
  unfold mEmit
  rw [nIc h hm, h, nI_1]
theorem nI_p1 (k : Nat) : nI k + 1 - 1 = nI k := Int32.add_sub_cancel _ _
theorem nI_m1 {k : Nat} (h : 0 < k) : nI k - 1 = nI (k - 1) := by
  have e : nI k = nI (k - 1) + 1 := by rw [nI_1, Nat.sub_add_cancel h]
  rw [e]
  exact Int32.add_sub_cancel _ _
theorem mB {S : MSt} {dp D : Nat} (h : S.1 21 = nI dp) (h' : S.1 22 = nI D) (h1 : dp < 1000) (h2 : D < 1000) : mBegR S = msI (msI S 21 (nI (dp + 1))) 22 (nI (max D (dp + 1))) := by
  unfold mBegR
  rw [h, h', nI_1]
  by_cases hc : dp + 1 ≤ D
  · rw [if_pos (nI_le hc (by omega)), Nat.max_eq_left hc]
  · rw [if_neg (nI_ge (by omega) (by omega)), Nat.max_eq_right (by omega)]
section M15
variable {n p q dr k dp D x hd : Nat} {S : MSt}
theorem T_fun (h : CS n p q dr k dp D S) (hb : dr < 700 ∧ dp < 900 ∧ D < 900) :
    ∃ S1, mFun S q x = S1 ∧ CS n (p + 2) (q + 1) (dr + 4) (k + 1) (dp + 1) (max D (dp + 1)) S1 ∧ KA q dr S S1 ∧ S1.2 11 (q + 1) = 2 ∧ S1.2 12 (q + 1) = 0 ∧ S1.2 13 (q + 1) = nI x ∧ S1.2 14 (q + 1) = nI dr ∧ S1.2 15 (q + 1) = S.2 19 x ∧ S1.2 16 (q + 1) = S.2 20 x ∧ S1.2 19 = rup (S.2 19) x 1 ∧ S1.2 20 = rup (S.2 20) x (nI k) ∧ S1.2 25 = rup (rup (rup (rup (S.2 25) dr 8) (dr + 1) (-1)) (dr + 2) 2) (dr + 3) (nI k) := by
  obtain ⟨c1, c9, c10, c23, c24, c21, c22⟩ := h
  have e1 : mFun S q x = mMeans (msI (msI (msI (msA (msI (msA (msI (msA (msI (msA (mFun0 S q (nI x)) 25 (dr) 8) 23 (nI (dr + 1))) 25 (dr + 1) (-1)) 23 (nI (dr + 1 + 1))) 25 (dr + 1 + 1) 2) 23 (nI (dr + 1 + 1 + 1))) 25 (dr + 1 + 1 + 1) (nI k)) 23 (nI (dr + 1 + 1 + 1 + 1))) 21 (nI (dp + 1))) 22 (nI (max D (dp + 1)))) (q + 1) x 1 (nI k) := by
    unfold mFun
    rw [c24, nI_p1, mE (S := mFun0 S q (nI x)) (m := dr) (v := 8) c23 (by omega), mE (m := dr + 1) (v := (-1)) rfl (by omega), mE (m := dr + 1 + 1) (v := 2) rfl (by omega), mE (m := dr + 1 + 1 + 1) (v := (nI k)) rfl (by omega), mB (S := (msI (msA (msI (msA (msI (msA (msI (msA (mFun0 S q (nI x)) 25 (dr) 8) 23 (nI (dr + 1))) 25 (dr + 1) (-1)) 23 (nI (dr + 1 + 1))) 25 (dr + 1 + 1) 2) 23 (nI (dr + 1 + 1 + 1))) 25 (dr + 1 + 1 + 1) (nI k)) 23 (nI (dr + 1 + 1 + 1 + 1)))) (dp := dp) (D := D) c21 c22 (by omega) (by omega)]
  refine ⟨_, rfl, ?_⟩
  rw [e1]
  refine ⟨⟨c1, ?_, ?_, rfl, ?_, rfl, rfl⟩, ?_, ?_, ?_, ?_, ?_, ?_, ?_, ?_, ?_, ?_⟩
  · show S.1 9 + 1 + 1 = _; rw [c9, nI_1, nI_1]
  · show S.1 10 + 1 = _; rw [c10, nI_1]
  · show S.1 24 + 1 = _; rw [c24, nI_1]
  · unfold mMeans mFun0 mOpen mNext
    repeat (first | exact KA.rf | refine KA.I ?_ rfl | refine KA.A ?_ rfl (by omega))
  · simp [mMeans, mFun0, mOpen, mNext, msI, msA]
  · simp [mMeans, mFun0, mOpen, mNext, msI, msA]
  · simp [mMeans, mFun0, mOpen, mNext, msI, msA]
  · simp [mMeans, mFun0, mOpen, mNext, msI, msA, c23]
  · simp [mMeans, mFun0, mOpen, mNext, msI, msA]
  · simp [mMeans, mFun0, mOpen, mNext, msI, msA]
  · funext j; simp [mMeans, mFun0, mOpen, mNext, msI, msA, rup]
  · funext j; simp [mMeans, mFun0, mOpen, mNext, msI, msA, rup]
  · funext j; simp [mMeans, mFun0, mOpen, mNext, msI, msA, rup]
theorem T_op3 (h : CS n p q dr k dp D S)  :
    ∃ S1, msA (mOpen S q 3) 13 (q + 1) 0 = S1 ∧ CS n (p + 1) (q + 1) dr k dp D S1 ∧ KA q dr S S1 ∧ S1.2 11 (q + 1) = 3 ∧ S1.2 12 (q + 1) = 0 ∧ S1.2 19 = S.2 19 ∧ S1.2 20 = S.2 20 ∧ S1.2 25 = S.2 25 := by
  obtain ⟨c1, c9, c10, c23, c24, c21, c22⟩ := h
  refine ⟨_, rfl, ?_⟩
  refine ⟨⟨?_, ?_, ?_, ?_, ?_, ?_, ?_⟩, ?_, ?_, ?_, ?_, ?_, ?_⟩
  · exact c1
  · show S.1 9 + 1 = _; rw [c9, nI_1]
  · show S.1 10 + 1 = _; rw [c10, nI_1]
  · exact c23
  · exact c24
  · exact c21
  · exact c22
  · unfold mOpen mNext
    repeat (first | exact KA.rf | refine KA.I ?_ rfl | refine KA.A ?_ rfl (by omega))
  · simp [mOpen, mNext, msI, msA, rup]
  · simp [mOpen, mNext, msI, msA, rup]
  · exact rfl
  · exact rfl
  · exact rfl
theorem T_op6 (h : CS n p q dr k dp D S)  :
    ∃ S1, msA (mOpen S q 6) 13 (q + 1) 0 = S1 ∧ CS n (p + 1) (q + 1) dr k dp D S1 ∧ KA q dr S S1 ∧ S1.2 11 (q + 1) = 6 ∧ S1.2 12 (q + 1) = 0 ∧ S1.2 19 = S.2 19 ∧ S1.2 20 = S.2 20 ∧ S1.2 25 = S.2 25 := by
  obtain ⟨c1, c9, c10, c23, c24, c21, c22⟩ := h
  refine ⟨_, rfl, ?_⟩
  refine ⟨⟨?_, ?_, ?_, ?_, ?_, ?_, ?_⟩, ?_, ?_, ?_, ?_, ?_, ?_⟩
  · exact c1
  · show S.1 9 + 1 = _; rw [c9, nI_1]
  · show S.1 10 + 1 = _; rw [c10, nI_1]
  · exact c23
  · exact c24
  · exact c21
  · exact c22
  · unfold mOpen mNext
    repeat (first | exact KA.rf | refine KA.I ?_ rfl | refine KA.A ?_ rfl (by omega))
  · simp [mOpen, mNext, msI, msA, rup]
  · simp [mOpen, mNext, msI, msA, rup]
  · exact rfl
  · exact rfl
  · exact rfl
theorem T_op4 (h : CS n p q dr k dp D S) {v : Int32}  :
    ∃ S1, msA (mNext (mOpen S q 4)) 13 (q + 1) v = S1 ∧ CS n (p + 2) (q + 1) dr k dp D S1 ∧ KA q dr S S1 ∧ S1.2 11 (q + 1) = 4 ∧ S1.2 12 (q + 1) = 0 ∧ S1.2 13 (q + 1) = v ∧ S1.2 19 = S.2 19 ∧ S1.2 20 = S.2 20 ∧ S1.2 25 = S.2 25 := by
  obtain ⟨c1, c9, c10, c23, c24, c21, c22⟩ := h
  refine ⟨_, rfl, ?_⟩
  refine ⟨⟨?_, ?_, ?_, ?_, ?_, ?_, ?_⟩, ?_, ?_, ?_, ?_, ?_, ?_, ?_⟩
  · exact c1
  · show S.1 9 + 1 + 1 = _; rw [c9, nI_1, nI_1]
  · show S.1 10 + 1 = _; rw [c10, nI_1]
  · exact c23
  · exact c24
  · exact c21
  · exact c22
  · unfold mOpen mNext
    repeat (first | exact KA.rf | refine KA.I ?_ rfl | refine KA.A ?_ rfl (by omega))
  · simp [mOpen, mNext, msI, msA, rup]
  · simp [mOpen, mNext, msI, msA, rup]
  · simp [mOpen, mNext, msI, msA, rup]
  · exact rfl
  · exact rfl
  · exact rfl
theorem T_op5 (h : CS n p q dr k dp D S) {v : Int32}  :
    ∃ S1, msA (mNext (mOpen S q 5)) 13 (q + 1) v = S1 ∧ CS n (p + 2) (q + 1) dr k dp D S1 ∧ KA q dr S S1 ∧ S1.2 11 (q + 1) = 5 ∧ S1.2 12 (q + 1) = 0 ∧ S1.2 13 (q + 1) = v ∧ S1.2 19 = S.2 19 ∧ S1.2 20 = S.2 20 ∧ S1.2 25 = S.2 25 := by
  obtain ⟨c1, c9, c10, c23, c24, c21, c22⟩ := h
  refine ⟨_, rfl, ?_⟩
  refine ⟨⟨?_, ?_, ?_, ?_, ?_, ?_, ?_⟩, ?_, ?_, ?_, ?_, ?_, ?_, ?_⟩
  · exact c1
  · show S.1 9 + 1 + 1 = _; rw [c9, nI_1, nI_1]
  · show S.1 10 + 1 = _; rw [c10, nI_1]
  · exact c23
  · exact c24
  · exact c21
  · exact c22
  · unfold mOpen mNext
    repeat (first | exact KA.rf | refine KA.I ?_ rfl | refine KA.A ?_ rfl (by omega))
  · simp [mOpen, mNext, msI, msA, rup]
  · simp [mOpen, mNext, msI, msA, rup]
  · simp [mOpen, mNext, msI, msA, rup]
  · exact rfl
  · exact rfl
  · exact rfl
theorem T_at (h : CS n p q dr k dp D S) {a b : Int32}  :
    ∃ S1, msI (msI (mNext (mNext S)) 17 a) 18 b = S1 ∧ CS n (p + 2) q dr k dp D S1 ∧ KA q dr S S1 ∧ S1.1 17 = a ∧ S1.1 18 = b ∧ S1.2 19 = S.2 19 ∧ S1.2 20 = S.2 20 ∧ S1.2 25 = S.2 25 := by
  obtain ⟨c1, c9, c10, c23, c24, c21, c22⟩ := h
  refine ⟨_, rfl, ?_⟩
  refine ⟨⟨?_, ?_, ?_, ?_, ?_, ?_, ?_⟩, ?_, ?_, ?_, ?_, ?_, ?_⟩
  · exact c1
  · show S.1 9 + 1 + 1 = _; rw [c9, nI_1, nI_1]
  · exact c10
  · exact c23
  · exact c24
  · exact c21
  · exact c22
  · unfold mNext
    repeat (first | exact KA.rf | refine KA.I ?_ rfl | refine KA.A ?_ rfl (by omega))
  · exact rfl
  · exact rfl
  · exact rfl
  · exact rfl
  · exact rfl
theorem T_gofun (h : CS n p (q + 1) dr k dp D S) (hb : dr < 700 ∧ dp < 900 ∧ D < 900) {a b : Int32} (hdp : 0 < dp) (hhd : hd + 1 < dr) (h15 : S.2 15 (q + 1) = a) (h16 : S.2 16 (q + 1) = b)  :
    ∃ S1, mNamed (mAgain (mRowE (mS0 S (q + 1))) (q + 1) x) hd = S1 ∧ CS n p q (dr + 3) (k + 1) (dp - 1) D S1 ∧ KA q (hd + 1) S S1 ∧ S1.1 17 = 1 ∧ S1.1 18 = nI k ∧ S1.2 19 = rup (S.2 19) x a ∧ S1.2 20 = rup (S.2 20) x b ∧ S1.2 25 = rup (rup (rup (rup (S.2 25) dr 9) (dr + 1) (S.1 17)) (dr + 2) (S.1 18)) (hd + 1) (nI k) := by
  obtain ⟨c1, c9, c10, c23, c24, c21, c22⟩ := h
  have e1 : mNamed (mAgain (mRowE (mS0 S (q + 1))) (q + 1) x) hd = mNamed (mAgain (msI (msA (msI (msA (msI (msA (mS0 S (q + 1)) 25 (dr) 9) 23 (nI (dr + 1))) 25 (dr + 1) (S.1 17)) 23 (nI (dr + 1 + 1))) 25 (dr + 1 + 1) (S.1 18)) 23 (nI (dr + 1 + 1 + 1))) (q + 1) x) hd := by
    show mNamed (mAgain (mEmit (mEmit (mEmit (mS0 S (q + 1)) 9) (S.1 17)) (S.1 18)) (q + 1) x) hd = _
    rw [mE (S := mS0 S (q + 1)) (m := dr) (v := 9) c23 (by omega), mE (m := dr + 1) (v := (S.1 17)) rfl (by omega), mE (m := dr + 1 + 1) (v := (S.1 18)) rfl (by omega)]
  refine ⟨_, rfl, ?_⟩
  rw [e1]
  refine ⟨⟨?_, ?_, ?_, ?_, ?_, ?_, ?_⟩, ?_, ?_, ?_, ?_, ?_, ?_⟩
  · exact c1
  · exact c9
  · show S.1 10 - 1 = _; rw [c10, nI_m1 (by omega)]; rfl
  · exact rfl
  · show S.1 24 + 1 = _; rw [c24, nI_1]
  · show S.1 21 - 1 = _; rw [c21, nI_m1 (by omega)]
  · exact c22
  · unfold mNamed mAgain mS0
    repeat (first | exact KA.rf | refine KA.I ?_ rfl | refine KA.A ?_ rfl (by omega))
  · exact rfl
  · show S.1 24 + 1 - 1 = _; rw [c24, nI_p1]
  · funext j; simp [mNamed, mAgain, mS0, msI, msA, rup, h15]
  · funext j; simp [mNamed, mAgain, mS0, msI, msA, rup, h16]
  · funext j; simp [mNamed, mAgain, mS0, msI, msA, rup, c24, nI_p1]
theorem T_golet0 (h : CS n p (q + 1) dr k dp D S) (hs : S.2 12 (q + 1) = 0) :
    ∃ S1, mMeans (mS0 S (q + 1)) (q + 1) x ((mS0 S (q + 1)).1 17) ((mS0 S (q + 1)).1 18) = S1 ∧ CS n p (q + 1) dr k dp D S1 ∧ KA q dr S S1 ∧ S1.2 11 (q + 1) = S.2 11 (q + 1) ∧ S1.2 12 (q + 1) = 1 ∧ S1.2 13 (q + 1) = S.2 13 (q + 1) ∧ S1.2 15 (q + 1) = S.2 19 x ∧ S1.2 16 (q + 1) = S.2 20 x ∧ S1.2 19 = rup (S.2 19) x (S.1 17) ∧ S1.2 20 = rup (S.2 20) x (S.1 18) ∧ S1.2 25 = S.2 25 := by
  obtain ⟨c1, c9, c10, c23, c24, c21, c22⟩ := h
  refine ⟨_, rfl, ?_⟩
  refine ⟨⟨?_, ?_, ?_, ?_, ?_, ?_, ?_⟩, ?_, ?_, ?_, ?_, ?_, ?_, ?_, ?_, ?_⟩
  · exact c1
  · exact c9
  · exact c10
  · exact c23
  · exact c24
  · exact c21
  · exact c22
  · unfold mMeans mS0
    repeat (first | exact KA.rf | refine KA.I ?_ rfl | refine KA.A ?_ rfl (by omega))
  · simp [mMeans, mS0, msI, msA, rup]
  · simp [mMeans, mS0, msI, msA, hs]
  · simp [mMeans, mS0, msI, msA, rup]
  · simp [mMeans, mS0, msI, msA, rup]
  · simp [mMeans, mS0, msI, msA, rup]
  · funext j; simp [mMeans, mS0, msI, msA, rup]
  · funext j; simp [mMeans, mS0, msI, msA, rup]
  · exact rfl
theorem T_golet1 (h : CS n p (q + 1) dr k dp D S) {a b : Int32} (h15 : S.2 15 (q + 1) = a) (h16 : S.2 16 (q + 1) = b)  :
    ∃ S1, mCl (mAgain (mS0 S (q + 1)) (q + 1) x) = S1 ∧ CS n p q dr k dp D S1 ∧ KA q dr S S1 ∧ S1.1 17 = S.1 17 ∧ S1.1 18 = S.1 18 ∧ S1.2 19 = rup (S.2 19) x a ∧ S1.2 20 = rup (S.2 20) x b ∧ S1.2 25 = S.2 25 := by
  obtain ⟨c1, c9, c10, c23, c24, c21, c22⟩ := h
  refine ⟨_, rfl, ?_⟩
  refine ⟨⟨?_, ?_, ?_, ?_, ?_, ?_, ?_⟩, ?_, ?_, ?_, ?_, ?_, ?_⟩
  · exact c1
  · exact c9
  · show S.1 10 - 1 = _; rw [c10, nI_m1 (by omega)]; rfl
  · exact c23
  · exact c24
  · exact c21
  · exact c22
  · unfold mCl mAgain mS0
    repeat (first | exact KA.rf | refine KA.I ?_ rfl | refine KA.A ?_ rfl (by omega))
  · exact rfl
  · exact rfl
  · funext j; simp [mCl, mAgain, mS0, msI, msA, rup, h15]
  · funext j; simp [mCl, mAgain, mS0, msI, msA, rup, h16]
  · exact rfl
theorem T_goif0 (h : CS n p (q + 1) dr k dp D S) (hb : dr < 700 ∧ dp < 900 ∧ D < 900) (hs : S.2 12 (q + 1) = 0) :
    ∃ S1, mBr0 (mS0 S (q + 1)) (q + 1) = S1 ∧ CS n p (q + 1) (dr + 5) k (dp + 1) (max D (dp + 1)) S1 ∧ KA q dr S S1 ∧ S1.2 11 (q + 1) = S.2 11 (q + 1) ∧ S1.2 12 (q + 1) = 1 ∧ S1.2 14 (q + 1) = nI dr ∧ S1.2 19 = S.2 19 ∧ S1.2 20 = S.2 20 ∧ S1.2 25 = rup (rup (rup (rup (rup (S.2 25) dr 8) (dr + 1) (-1)) (dr + 2) 6) (dr + 3) (S.1 17)) (dr + 4) (S.1 18) := by
  obtain ⟨c1, c9, c10, c23, c24, c21, c22⟩ := h
  have e1 : mBr0 (mS0 S (q + 1)) (q + 1) = (msI (msI (msI (msA (msI (msA (msI (msA (msI (msA (msI (msA (msA (mS0 S (q + 1)) 14 (q + 1) (S.1 23)) 25 (dr) 8) 23 (nI (dr + 1))) 25 (dr + 1) (-1)) 23 (nI (dr + 1 + 1))) 25 (dr + 1 + 1) 6) 23 (nI (dr + 1 + 1 + 1))) 25 (dr + 1 + 1 + 1) (S.1 17)) 23 (nI (dr + 1 + 1 + 1 + 1))) 25 (dr + 1 + 1 + 1 + 1) (S.1 18)) 23 (nI (dr + 1 + 1 + 1 + 1 + 1))) 21 (nI (dp + 1))) 22 (nI (max D (dp + 1)))) := by
    show mBegR (mEmit (mEmit (mEmit (mEmit (mEmit (msA (mS0 S (q + 1)) 14 (q + 1) (S.1 23)) 8) (-1)) 6) (S.1 17)) (S.1 18)) = _
    rw [mE (S := msA (mS0 S (q + 1)) 14 (q + 1) (S.1 23)) (m := dr) (v := 8) c23 (by omega), mE (m := dr + 1) (v := (-1)) rfl (by omega), mE (m := dr + 1 + 1) (v := 6) rfl (by omega), mE (m := dr + 1 + 1 + 1) (v := (S.1 17)) rfl (by omega), mE (m := dr + 1 + 1 + 1 + 1) (v := (S.1 18)) rfl (by omega), mB (S := (msI (msA (msI (msA (msI (msA (msI (msA (msI (msA (msA (mS0 S (q + 1)) 14 (q + 1) (S.1 23)) 25 (dr) 8) 23 (nI (dr + 1))) 25 (dr + 1) (-1)) 23 (nI (dr + 1 + 1))) 25 (dr + 1 + 1) 6) 23 (nI (dr + 1 + 1 + 1))) 25 (dr + 1 + 1 + 1) (S.1 17)) 23 (nI (dr + 1 + 1 + 1 + 1))) 25 (dr + 1 + 1 + 1 + 1) (S.1 18)) 23 (nI (dr + 1 + 1 + 1 + 1 + 1)))) (dp := dp) (D := D) c21 c22 (by omega) (by omega)]
  refine ⟨_, rfl, ?_⟩
  rw [e1]
  refine ⟨⟨?_, ?_, ?_, ?_, ?_, ?_, ?_⟩, ?_, ?_, ?_, ?_, ?_, ?_, ?_⟩
  · exact c1
  · exact c9
  · exact c10
  · exact rfl
  · exact c24
  · exact rfl
  · exact rfl
  · unfold mS0
    repeat (first | exact KA.rf | refine KA.I ?_ rfl | refine KA.A ?_ rfl (by omega))
  · simp [mS0, msI, msA, rup]
  · simp [mS0, msI, msA, hs]
  · simp [mS0, msI, msA, c23]
  · exact rfl
  · exact rfl
  · funext j; simp [mS0, msI, msA, rup]
theorem T_goif1 (h : CS n p (q + 1) dr k dp D S) (hb : dr < 700 ∧ dp < 900 ∧ D < 900) (hs : S.2 12 (q + 1) = 1) :
    ∃ S1, mRowE (mS0 S (q + 1)) = S1 ∧ CS n p (q + 1) (dr + 3) k dp D S1 ∧ KA q dr S S1 ∧ S1.2 11 (q + 1) = S.2 11 (q + 1) ∧ S1.2 12 (q + 1) = 2 ∧ S1.2 14 (q + 1) = S.2 14 (q + 1) ∧ S1.2 19 = S.2 19 ∧ S1.2 20 = S.2 20 ∧ S1.2 25 = rup (rup (rup (S.2 25) dr 9) (dr + 1) (S.1 17)) (dr + 2) (S.1 18) := by
  obtain ⟨c1, c9, c10, c23, c24, c21, c22⟩ := h
  have e1 : mRowE (mS0 S (q + 1)) = (msI (msA (msI (msA (msI (msA (mS0 S (q + 1)) 25 (dr) 9) 23 (nI (dr + 1))) 25 (dr + 1) (S.1 17)) 23 (nI (dr + 1 + 1))) 25 (dr + 1 + 1) (S.1 18)) 23 (nI (dr + 1 + 1 + 1))) := by
    show (mEmit (mEmit (mEmit (mS0 S (q + 1)) 9) (S.1 17)) (S.1 18)) = _
    rw [mE (S := mS0 S (q + 1)) (m := dr) (v := 9) c23 (by omega), mE (m := dr + 1) (v := (S.1 17)) rfl (by omega), mE (m := dr + 1 + 1) (v := (S.1 18)) rfl (by omega)]
  refine ⟨_, rfl, ?_⟩
  rw [e1]
  refine ⟨⟨?_, ?_, ?_, ?_, ?_, ?_, ?_⟩, ?_, ?_, ?_, ?_, ?_, ?_, ?_⟩
  · exact c1
  · exact c9
  · exact c10
  · exact rfl
  · exact c24
  · exact c21
  · exact c22
  · unfold mS0
    repeat (first | exact KA.rf | refine KA.I ?_ rfl | refine KA.A ?_ rfl (by omega))
  · simp [mS0, msI, msA, rup]
  · simp [mS0, msI, msA, hs]
  · simp [mS0, msI, msA, rup]
  · exact rfl
  · exact rfl
  · funext j; simp [mS0, msI, msA, rup]
theorem T_goif2 (h : CS n p (q + 1) dr k dp D S) (hb : dr < 700 ∧ dp < 900 ∧ D < 900) (hdp : 0 < dp) (hhd : hd + 1 < dr)  :
    ∃ S1, mNamed (mRowE (mS0 S (q + 1))) hd = S1 ∧ CS n p q (dr + 3) (k + 1) (dp - 1) D S1 ∧ KA q (hd + 1) S S1 ∧ S1.1 17 = 1 ∧ S1.1 18 = nI k ∧ S1.2 19 = S.2 19 ∧ S1.2 20 = S.2 20 ∧ S1.2 25 = rup (rup (rup (rup (S.2 25) dr 9) (dr + 1) (S.1 17)) (dr + 2) (S.1 18)) (hd + 1) (nI k) := by
  obtain ⟨c1, c9, c10, c23, c24, c21, c22⟩ := h
  have e1 : mNamed (mRowE (mS0 S (q + 1))) hd = mNamed (msI (msA (msI (msA (msI (msA (mS0 S (q + 1)) 25 (dr) 9) 23 (nI (dr + 1))) 25 (dr + 1) (S.1 17)) 23 (nI (dr + 1 + 1))) 25 (dr + 1 + 1) (S.1 18)) 23 (nI (dr + 1 + 1 + 1))) hd := by
    show mNamed (mEmit (mEmit (mEmit (mS0 S (q + 1)) 9) (S.1 17)) (S.1 18)) hd = _
    rw [mE (S := mS0 S (q + 1)) (m := dr) (v := 9) c23 (by omega), mE (m := dr + 1) (v := (S.1 17)) rfl (by omega), mE (m := dr + 1 + 1) (v := (S.1 18)) rfl (by omega)]
  refine ⟨_, rfl, ?_⟩
  rw [e1]
  refine ⟨⟨?_, ?_, ?_, ?_, ?_, ?_, ?_⟩, ?_, ?_, ?_, ?_, ?_, ?_⟩
  · exact c1
  · exact c9
  · show S.1 10 - 1 = _; rw [c10, nI_m1 (by omega)]; rfl
  · exact rfl
  · show S.1 24 + 1 = _; rw [c24, nI_1]
  · show S.1 21 - 1 = _; rw [c21, nI_m1 (by omega)]
  · exact c22
  · unfold mNamed mS0
    repeat (first | exact KA.rf | refine KA.I ?_ rfl | refine KA.A ?_ rfl (by omega))
  · exact rfl
  · show S.1 24 + 1 - 1 = _; rw [c24, nI_p1]
  · exact rfl
  · exact rfl
  · funext j; simp [mNamed, mS0, msI, msA, rup, c24, nI_p1]
theorem T_gopa (h : CS n p (q + 1) dr k dp D S) (hs : S.2 12 (q + 1) = 0) :
    ∃ S1, mPr0 (mS0 S (q + 1)) (q + 1) = S1 ∧ CS n p (q + 1) dr k dp D S1 ∧ KA q dr S S1 ∧ S1.2 11 (q + 1) = S.2 11 (q + 1) ∧ S1.2 12 (q + 1) = 1 ∧ S1.2 13 (q + 1) = S.2 13 (q + 1) ∧ S1.2 15 (q + 1) = S.1 17 ∧ S1.2 16 (q + 1) = S.1 18 ∧ S1.2 19 = S.2 19 ∧ S1.2 20 = S.2 20 ∧ S1.2 25 = S.2 25 := by
  obtain ⟨c1, c9, c10, c23, c24, c21, c22⟩ := h
  refine ⟨_, rfl, ?_⟩
  refine ⟨⟨?_, ?_, ?_, ?_, ?_, ?_, ?_⟩, ?_, ?_, ?_, ?_, ?_, ?_, ?_, ?_, ?_⟩
  · exact c1
  · exact c9
  · exact c10
  · exact c23
  · exact c24
  · exact c21
  · exact c22
  · unfold mPr0 mPr0a mPr0b mS0
    repeat (first | exact KA.rf | refine KA.I ?_ rfl | refine KA.A ?_ rfl (by omega))
  · simp [mPr0, mPr0a, mPr0b, mS0, msI, msA, rup]
  · simp [mPr0, mPr0a, mPr0b, mS0, msI, msA, hs]
  · simp [mPr0, mPr0a, mPr0b, mS0, msI, msA, rup]
  · simp [mPr0, mPr0a, mPr0b, mS0, msI, msA, rup]
  · simp [mPr0, mPr0a, mPr0b, mS0, msI, msA, rup]
  · exact rfl
  · exact rfl
  · exact rfl
theorem T_gopb3 (h : CS n p (q + 1) dr k dp D S) (hb : dr < 700 ∧ dp < 900 ∧ D < 900) {a b : Int32} (h15 : S.2 15 (q + 1) = a) (h16 : S.2 16 (q + 1) = b)  :
    ∃ S1, mPr3 (mS0 S (q + 1)) (q + 1) = S1 ∧ CS n p q (dr + 7) (k + 1) dp D S1 ∧ KA q dr S S1 ∧ S1.1 17 = 1 ∧ S1.1 18 = nI k ∧ S1.2 19 = S.2 19 ∧ S1.2 20 = S.2 20 ∧ S1.2 25 = (rup (rup (rup (rup (rup (rup (rup (S.2 25) dr 8) (dr + 1) (nI k)) (dr + 2) 3) (dr + 3) a) (dr + 4) b) (dr + 5) (S.1 17)) (dr + 6) (S.1 18)) := by
  obtain ⟨c1, c9, c10, c23, c24, c21, c22⟩ := h
  have e1 : mPr3 (mS0 S (q + 1)) (q + 1) = mCl (msI (msI (msI (msA (msI (msA (msI (msA (msI (msA (msI (msA (msI (msA (msI (msA (msI (mS0 S (q + 1)) 24 (S.1 24 + 1)) 25 (dr) 8) 23 (nI (dr + 1))) 25 (dr + 1) (nI k)) 23 (nI (dr + 1 + 1))) 25 (dr + 1 + 1) 3) 23 (nI (dr + 1 + 1 + 1))) 25 (dr + 1 + 1 + 1) a) 23 (nI (dr + 1 + 1 + 1 + 1))) 25 (dr + 1 + 1 + 1 + 1) b) 23 (nI (dr + 1 + 1 + 1 + 1 + 1))) 25 (dr + 1 + 1 + 1 + 1 + 1) (S.1 17)) 23 (nI (dr + 1 + 1 + 1 + 1 + 1 + 1))) 25 (dr + 1 + 1 + 1 + 1 + 1 + 1) (S.1 18)) 23 (nI (dr + 1 + 1 + 1 + 1 + 1 + 1 + 1))) 17 1) 18 (nI k)) := by
    show mCl (msI (msI (mEmit (mEmit (mEmit (mEmit (mEmit (mEmit (mEmit (msI (mS0 S (q + 1)) 24 (S.1 24 + 1)) 8) (S.1 24 + 1 - 1)) 3) (S.2 15 (q + 1))) (S.2 16 (q + 1))) (S.1 17)) (S.1 18)) 17 1) 18 (S.1 24 + 1 - 1)) = _
    rw [show S.1 24 + 1 - 1 = nI k by rw [c24, nI_p1], h15, h16, mE (S := msI (mS0 S (q + 1)) 24 (S.1 24 + 1)) (m := dr) (v := 8) c23 (by omega), mE (m := dr + 1) (v := (nI k)) rfl (by omega), mE (m := dr + 1 + 1) (v := 3) rfl (by omega), mE (m := dr + 1 + 1 + 1) (v := a) rfl (by omega), mE (m := dr + 1 + 1 + 1 + 1) (v := b) rfl (by omega), mE (m := dr + 1 + 1 + 1 + 1 + 1) (v := (S.1 17)) rfl (by omega), mE (m := dr + 1 + 1 + 1 + 1 + 1 + 1) (v := (S.1 18)) rfl (by omega)]
  refine ⟨_, rfl, ?_⟩
  rw [e1]
  refine ⟨⟨?_, ?_, ?_, ?_, ?_, ?_, ?_⟩, ?_, ?_, ?_, ?_, ?_, ?_⟩
  · exact c1
  · exact c9
  · show S.1 10 - 1 = _; rw [c10, nI_m1 (by omega)]; rfl
  · exact rfl
  · show S.1 24 + 1 = _; rw [c24, nI_1]
  · exact c21
  · exact c22
  · unfold mCl mS0
    repeat (first | exact KA.rf | refine KA.I ?_ rfl | refine KA.A ?_ rfl (by omega))
  · exact rfl
  · exact rfl
  · exact rfl
  · exact rfl
  · funext j; simp [mCl, mS0, msI, msA, rup]
theorem T_gopb5 (h : CS n p (q + 1) dr k dp D S) (hb : dr < 700 ∧ dp < 900 ∧ D < 900) {a b : Int32} (h15 : S.2 15 (q + 1) = a) (h16 : S.2 16 (q + 1) = b)  :
    ∃ S1, mPr5 (mS0 S (q + 1)) (q + 1) = S1 ∧ CS n p q (dr + 8) (k + 1) dp D S1 ∧ KA q dr S S1 ∧ S1.1 17 = 1 ∧ S1.1 18 = nI k ∧ S1.2 19 = S.2 19 ∧ S1.2 20 = S.2 20 ∧ S1.2 25 = (rup (rup (rup (rup (rup (rup (rup (rup (S.2 25) dr 8) (dr + 1) (nI k)) (dr + 2) 5) (dr + 3) (S.2 13 (q + 1))) (dr + 4) a) (dr + 5) b) (dr + 6) (S.1 17)) (dr + 7) (S.1 18)) := by
  obtain ⟨c1, c9, c10, c23, c24, c21, c22⟩ := h
  have e1 : mPr5 (mS0 S (q + 1)) (q + 1) = mCl (msI (msI (msI (msA (msI (msA (msI (msA (msI (msA (msI (msA (msI (msA (msI (msA (msI (msA (msI (mS0 S (q + 1)) 24 (S.1 24 + 1)) 25 (dr) 8) 23 (nI (dr + 1))) 25 (dr + 1) (nI k)) 23 (nI (dr + 1 + 1))) 25 (dr + 1 + 1) 5) 23 (nI (dr + 1 + 1 + 1))) 25 (dr + 1 + 1 + 1) (S.2 13 (q + 1))) 23 (nI (dr + 1 + 1 + 1 + 1))) 25 (dr + 1 + 1 + 1 + 1) a) 23 (nI (dr + 1 + 1 + 1 + 1 + 1))) 25 (dr + 1 + 1 + 1 + 1 + 1) b) 23 (nI (dr + 1 + 1 + 1 + 1 + 1 + 1))) 25 (dr + 1 + 1 + 1 + 1 + 1 + 1) (S.1 17)) 23 (nI (dr + 1 + 1 + 1 + 1 + 1 + 1 + 1))) 25 (dr + 1 + 1 + 1 + 1 + 1 + 1 + 1) (S.1 18)) 23 (nI (dr + 1 + 1 + 1 + 1 + 1 + 1 + 1 + 1))) 17 1) 18 (nI k)) := by
    show mCl (msI (msI (mEmit (mEmit (mEmit (mEmit (mEmit (mEmit (mEmit (mEmit (msI (mS0 S (q + 1)) 24 (S.1 24 + 1)) 8) (S.1 24 + 1 - 1)) 5) (S.2 13 (q + 1))) (S.2 15 (q + 1))) (S.2 16 (q + 1))) (S.1 17)) (S.1 18)) 17 1) 18 (S.1 24 + 1 - 1)) = _
    rw [show S.1 24 + 1 - 1 = nI k by rw [c24, nI_p1], h15, h16, mE (S := msI (mS0 S (q + 1)) 24 (S.1 24 + 1)) (m := dr) (v := 8) c23 (by omega), mE (m := dr + 1) (v := (nI k)) rfl (by omega), mE (m := dr + 1 + 1) (v := 5) rfl (by omega), mE (m := dr + 1 + 1 + 1) (v := (S.2 13 (q + 1))) rfl (by omega), mE (m := dr + 1 + 1 + 1 + 1) (v := a) rfl (by omega), mE (m := dr + 1 + 1 + 1 + 1 + 1) (v := b) rfl (by omega), mE (m := dr + 1 + 1 + 1 + 1 + 1 + 1) (v := (S.1 17)) rfl (by omega), mE (m := dr + 1 + 1 + 1 + 1 + 1 + 1 + 1) (v := (S.1 18)) rfl (by omega)]
  refine ⟨_, rfl, ?_⟩
  rw [e1]
  refine ⟨⟨?_, ?_, ?_, ?_, ?_, ?_, ?_⟩, ?_, ?_, ?_, ?_, ?_, ?_⟩
  · exact c1
  · exact c9
  · show S.1 10 - 1 = _; rw [c10, nI_m1 (by omega)]; rfl
  · exact rfl
  · show S.1 24 + 1 = _; rw [c24, nI_1]
  · exact c21
  · exact c22
  · unfold mCl mS0
    repeat (first | exact KA.rf | refine KA.I ?_ rfl | refine KA.A ?_ rfl (by omega))
  · exact rfl
  · exact rfl
  · exact rfl
  · exact rfl
  · funext j; simp [mCl, mS0, msI, msA, rup]
end M15
