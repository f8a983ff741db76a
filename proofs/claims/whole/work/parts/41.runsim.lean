/-! ===== the reference's run does what ev says ===== -/
section TR
variable {p dp nf nc bg : Nat} {S : MSt}
theorem T_mak {nm pr ch pl : Int32} (h26 : S.1 26 = nI nc) : ∃ S1, mMak (mWrk S bg) p dp nf nc nm pr ch pl = S1 ∧ ouR S1 = ouR S ∧ S1.1 26 = nI (nc + 1) ∧ S1.1 31 = nI (nf + 1) ∧ S1.1 35 = S.1 35 ∧ CU S S1 nc nm (true, nI nf) ch ∧ S1.2 32 = rup (S.2 32) nf (nI (p + 4)) ∧ S1.2 33 = rup (S.2 33) nf pr ∧ S1.2 34 = rup (S.2 34) nf ch ∧ S1.2 36 = rup (S.2 36) dp pl ∧ S1.2 37 = rup (S.2 37) dp (nI nc) ∧ S1.2 38 = S.2 38 ∧ S1.2 39 = S.2 39 ∧ S1.2 42 = rup (S.2 42) 2 (nI (bg + 1)) := by
  refine ⟨_, rfl, ?_, ?_, rfl, rfl, ⟨?_, ?_, ?_, ?_⟩, ?_, ?_, ?_, ?_, ?_, rfl, rfl, ?_⟩
  · exact (ouR_A rfl).trans ((ouR_A rfl).trans ((ouR_I rfl).trans ((ouR_A rfl).trans ((ouR_A rfl).trans ((ouR_A rfl).trans ((ouR_A rfl).trans ((ouR_I rfl).trans ((ouR_I rfl).trans ((ouR_I rfl).trans ((ouR_A rfl).trans ((ouR_A rfl).trans ((ouR_A rfl).trans (ouR_A rfl)))))))))))))
  · show S.1 26 + 1 = _; rw [h26, nI_1]
  · funext j; simp [mMak, mKeep, mWrk, msI, msA, rup]
  · funext j; simp [mMak, mKeep, mWrk, msI, msA, rup, bI]
  · funext j; simp [mMak, mKeep, mWrk, msI, msA, rup]
  · funext j; simp [mMak, mKeep, mWrk, msI, msA, rup]
  · funext j; simp [mMak, mKeep, mWrk, msI, msA, rup]
  · funext j; simp [mMak, mKeep, mWrk, msI, msA, rup]
  · funext j; simp [mMak, mKeep, mWrk, msI, msA, rup]
  · funext j; simp [mMak, mKeep, mWrk, msI, msA, rup]
  · funext j; simp [mMak, mKeep, mWrk, msI, msA, rup]
  · funext j; simp [mMak, mKeep, mWrk, msI, msA, rup]
theorem T_rec {nm ch x : Int32} (h26 : S.1 26 = nI nc) : ∃ S1, mRec (mWrk S bg) p dp nc nm ch x = S1 ∧ ouR S1 = ouR S ∧ S1.1 26 = nI (nc + 1) ∧ S1.1 31 = S.1 31 ∧ S1.1 35 = S.1 35 ∧ CU S S1 nc nm (false, x) ch ∧ S1.2 32 = S.2 32 ∧ S1.2 33 = S.2 33 ∧ S1.2 34 = S.2 34 ∧ S1.2 36 = rup (S.2 36) dp (nI (p + 8)) ∧ S1.2 37 = rup (S.2 37) dp (nI nc) ∧ S1.2 38 = S.2 38 ∧ S1.2 39 = S.2 39 ∧ S1.2 42 = rup (S.2 42) 2 (nI (bg + 1)) := by
  refine ⟨_, rfl, ?_, ?_, rfl, rfl, ⟨?_, ?_, ?_, ?_⟩, rfl, rfl, rfl, ?_, ?_, rfl, rfl, ?_⟩
  · exact (ouR_A rfl).trans ((ouR_A rfl).trans ((ouR_I rfl).trans ((ouR_A rfl).trans ((ouR_A rfl).trans ((ouR_A rfl).trans ((ouR_A rfl).trans ((ouR_I rfl).trans ((ouR_I rfl).trans ((ouR_I rfl).trans (ouR_A rfl))))))))))
  · show S.1 26 + 1 = _; rw [h26, nI_1]
  · funext j; simp [mRec, mVal, mKeep, mWrk, msI, msA, rup]
  · funext j; simp [mRec, mVal, mKeep, mWrk, msI, msA, rup, bI]
  · funext j; simp [mRec, mVal, mKeep, mWrk, msI, msA, rup]
  · funext j; simp [mRec, mVal, mKeep, mWrk, msI, msA, rup]
  · funext j; simp [mRec, mVal, mKeep, mWrk, msI, msA, rup]
  · funext j; simp [mRec, mVal, mKeep, mWrk, msI, msA, rup]
  · funext j; simp [mRec, mVal, mKeep, mWrk, msI, msA, rup]
theorem T_app {S1 : MSt} {v : Val} {pr fc fr nm : Int32} {m : Nat} (h26 : S.1 26 = nI nc) (h35 : S.1 35 = nI (dp + 1)) (e1 : S1.1 = (mEnt (mKeep (mVal (mWrk S bg) v) nc pr fc) (dp + 1) fr (nI nc) (nI (p + 7)) nm).1) (e2 : ∀ k, k ≠ 42 → S1.2 k = (mEnt (mKeep (mVal (mWrk S bg) v) nc pr fc) (dp + 1) fr (nI nc) (nI (p + 7)) nm).2 k) :
    ouR S1 = ouR S ∧ S1.1 26 = nI (nc + 1) ∧ S1.1 31 = S.1 31 ∧ S1.1 35 = nI (dp + 1 + 1) ∧ CU S S1 nc pr v fc ∧ S1.2 32 = S.2 32 ∧ S1.2 33 = S.2 33 ∧ S1.2 34 = S.2 34 ∧ S1.2 36 = rup (S.2 36) (dp + 1) fr ∧ S1.2 37 = rup (S.2 37) (dp + 1) (nI nc) ∧ S1.2 38 = rup (S.2 38) (dp + 1) (nI (p + 7)) ∧ S1.2 39 = rup (S.2 39) (dp + 1) nm := by
  refine ⟨?_, ?_, ?_, ?_, ⟨?_, ?_, ?_, ?_⟩, ?_, ?_, ?_, ?_, ?_, ?_, ?_⟩
  · refine ouR_e (fun k hk => ?_) (fun k hk => ?_)
    · rw [e1]
      exact ouR_i (S := S) ((ouR_I rfl).trans ((ouR_A rfl).trans ((ouR_A rfl).trans ((ouR_A rfl).trans ((ouR_A rfl).trans ((ouR_I rfl).trans ((ouR_A rfl).trans ((ouR_A rfl).trans ((ouR_A rfl).trans ((ouR_A rfl).trans ((ouR_I rfl).trans ((ouR_I rfl).trans (ouR_A rfl))))))))))))) hk
    · rw [e2 k (fun z => by rw [z] at hk; cases hk)]
      exact ouR_a (S := S) ((ouR_I rfl).trans ((ouR_A rfl).trans ((ouR_A rfl).trans ((ouR_A rfl).trans ((ouR_A rfl).trans ((ouR_I rfl).trans ((ouR_A rfl).trans ((ouR_A rfl).trans ((ouR_A rfl).trans ((ouR_A rfl).trans ((ouR_I rfl).trans ((ouR_I rfl).trans (ouR_A rfl))))))))))))) hk
  · rw [e1]; show S.1 26 + 1 = _; rw [h26, nI_1]
  · rw [e1]; rfl
  · rw [e1]; show S.1 35 + 1 = _; rw [h35, nI_1]
  · rw [e2 27 (by decide)]; funext j; simp [mEnt, mVal, mKeep, mWrk, msI, msA, rup]
  · rw [e2 28 (by decide)]; funext j; simp [mEnt, mVal, mKeep, mWrk, msI, msA, rup]
  · rw [e2 29 (by decide)]; funext j; simp [mEnt, mVal, mKeep, mWrk, msI, msA, rup]
  · rw [e2 30 (by decide)]; funext j; simp [mEnt, mVal, mKeep, mWrk, msI, msA, rup]
  · rw [e2 32 (by decide)]; rfl
  · rw [e2 33 (by decide)]; rfl
  · rw [e2 34 (by decide)]; rfl
  · rw [e2 36 (by decide)]; funext j; simp [mEnt, mVal, mKeep, mWrk, msI, msA, rup]
  · rw [e2 37 (by decide)]; funext j; simp [mEnt, mVal, mKeep, mWrk, msI, msA, rup]
  · rw [e2 38 (by decide)]; funext j; simp [mEnt, mVal, mKeep, mWrk, msI, msA, rup]
  · rw [e2 39 (by decide)]; funext j; simp [mEnt, mVal, mKeep, mWrk, msI, msA, rup]
theorem T_cho {S1 : MSt} {v : Val} {fr ch bk nm : Int32} (h35 : S.1 35 = nI (dp + 1)) (e1 : S1.1 = (mEnt (mVal (mWrk S bg) v) (dp + 1) fr ch bk nm).1) (e2 : ∀ k, k ≠ 42 → S1.2 k = (mEnt (mVal (mWrk S bg) v) (dp + 1) fr ch bk nm).2 k) :
    ouR S1 = ouR S ∧ S1.1 26 = S.1 26 ∧ S1.1 31 = S.1 31 ∧ S1.1 35 = nI (dp + 1 + 1) ∧ KC 10000 S S1 ∧ S1.2 32 = S.2 32 ∧ S1.2 33 = S.2 33 ∧ S1.2 34 = S.2 34 ∧ S1.2 36 = rup (S.2 36) (dp + 1) fr ∧ S1.2 37 = rup (S.2 37) (dp + 1) ch ∧ S1.2 38 = rup (S.2 38) (dp + 1) bk ∧ S1.2 39 = rup (S.2 39) (dp + 1) nm := by
  refine ⟨?_, ?_, ?_, ?_, fun j _ => ⟨?_, ?_, ?_, ?_⟩, ?_, ?_, ?_, ?_, ?_, ?_, ?_⟩
  · refine ouR_e (fun k hk => ?_) (fun k hk => ?_)
    · rw [e1]
      exact ouR_i (S := S) ((ouR_I rfl).trans ((ouR_A rfl).trans ((ouR_A rfl).trans ((ouR_A rfl).trans ((ouR_A rfl).trans ((ouR_I rfl).trans ((ouR_I rfl).trans (ouR_A rfl)))))))) hk
    · rw [e2 k (fun z => by rw [z] at hk; cases hk)]
      exact ouR_a (S := S) ((ouR_I rfl).trans ((ouR_A rfl).trans ((ouR_A rfl).trans ((ouR_A rfl).trans ((ouR_A rfl).trans ((ouR_I rfl).trans ((ouR_I rfl).trans (ouR_A rfl)))))))) hk
  · rw [e1]; rfl
  · rw [e1]; rfl
  · rw [e1]; show S.1 35 + 1 = _; rw [h35, nI_1]
  · rw [e2 27 (by decide)]; rfl
  · rw [e2 28 (by decide)]; rfl
  · rw [e2 29 (by decide)]; rfl
  · rw [e2 30 (by decide)]; rfl
  · rw [e2 32 (by decide)]; rfl
  · rw [e2 33 (by decide)]; rfl
  · rw [e2 34 (by decide)]; rfl
  · rw [e2 36 (by decide)]; funext j; simp [mEnt, mVal, mWrk, msI, msA, rup]
  · rw [e2 37 (by decide)]; funext j; simp [mEnt, mVal, mWrk, msI, msA, rup]
  · rw [e2 38 (by decide)]; funext j; simp [mEnt, mVal, mWrk, msI, msA, rup]
  · rw [e2 39 (by decide)]; funext j; simp [mEnt, mVal, mWrk, msI, msA, rup]
theorem T_ret {v : Val} {w cb bk : Int32} (h26 : S.1 26 = nI nc) : ∃ S1, mRet (msI (mVal S v) 35 (nI dp)) dp nc w cb bk = S1 ∧ ouR S1 = ouR S ∧ S1.1 26 = nI (nc + 1) ∧ S1.1 31 = S.1 31 ∧ S1.1 35 = nI dp ∧ S1.1 40 = bI v.1 ∧ S1.1 41 = v.2 ∧ CU S S1 nc w v cb ∧ S1.2 32 = S.2 32 ∧ S1.2 33 = S.2 33 ∧ S1.2 34 = S.2 34 ∧ S1.2 36 = rup (S.2 36) (dp - 1) bk ∧ S1.2 37 = rup (S.2 37) (dp - 1) (nI nc) ∧ S1.2 38 = S.2 38 ∧ S1.2 39 = S.2 39 ∧ S1.2 42 = S.2 42 := by
  refine ⟨_, rfl, ?_, ?_, rfl, rfl, rfl, rfl, ⟨?_, ?_, ?_, ?_⟩, rfl, rfl, rfl, ?_, ?_, rfl, rfl, rfl⟩
  · exact (ouR_A rfl).trans ((ouR_A rfl).trans ((ouR_I rfl).trans ((ouR_A rfl).trans ((ouR_A rfl).trans ((ouR_A rfl).trans ((ouR_A rfl).trans ((ouR_I rfl).trans ((ouR_I rfl).trans (ouR_I rfl)))))))))
  · show S.1 26 + 1 = _; rw [h26, nI_1]
  · funext j; simp [mRet, mVal, mKeep, msI, msA, rup]
  · funext j; simp [mRet, mVal, mKeep, msI, msA, rup, bI]
  · funext j; simp [mRet, mVal, mKeep, msI, msA, rup]
  · funext j; simp [mRet, mVal, mKeep, msI, msA, rup]
  · funext j; simp [mRet, mVal, mKeep, msI, msA, rup]
  · funext j; simp [mRet, mVal, mKeep, msI, msA, rup]
end TR
