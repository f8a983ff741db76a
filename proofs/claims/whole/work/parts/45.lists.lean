/-! ===== the class: heaps, and the lists of the JDK ===== -/
/-- what is known lies below the heap's size -/
def Wf (h : PH) : Prop := ∀ (a : Nat) (c : PC), h.1 a = some c → a < h.2.1
theorem pset_at {h : PH} {a : Nat} {c : PC} : (pset h a c).1 a = some c := if_pos rfl
theorem pset_ne {h : PH} {a q : Nat} {c : PC} (h' : q ≠ a) : (pset h a c).1 q = h.1 q := if_neg h'
theorem pnew_at {h : PH} {c : PC} : (pnew h c).1 h.2.1 = some c := if_pos rfl
theorem pnew_ne {h : PH} {q : Nat} {c : PC} (h' : q ≠ h.2.1) : (pnew h c).1 q = h.1 q := if_neg h'
theorem pnew_old {h : PH} (hw : Wf h) {q : Nat} {c x : PC} (h' : h.1 q = some x) : (pnew h c).1 q = some x := by rw [pnew_ne (fun z => by have := hw q x h'; omega)]; exact h'
theorem Wf.set {h : PH} (hw : Wf h) {a : Nat} {c : PC} (ha : a < h.2.1) : Wf (pset h a c) := fun q x hq => by
  by_cases e : q = a
  · rw [e]; exact ha
  · rw [pset_ne e] at hq; exact hw q x hq
theorem Wf.new {h : PH} (hw : Wf h) {c : PC} : Wf (pnew h c) := fun q x hq => by
  by_cases e : q = h.2.1
  · rw [e]; exact Nat.lt_succ_self _
  · rw [pnew_ne e] at hq; exact Nat.lt_succ_of_lt (hw q x hq)
/-- what the array behind a list holds: bs, then anything -/
def eH (E : PE) (h : PH) (e : Nat) (bs : List Nat) (cap : Nat) : Prop := (cap = 0 ∧ bs = [] ∧ e = E.2.1 2 ∧ h.1 e = some (109, [])) ∨ ∃ fs : List Value, h.1 e = some (106, fs) ∧ fs.length = cap ∧ fs.take bs.length = bs.map Value.ref ∧ bs.length ≤ cap ∧ e ≠ E.2.1 2 ∧ 0 < cap
/-- the list at l holds the bindings bs -/
def LH (E : PE) (h : PH) (l e : Nat) (bs : List Nat) (cap : Nat) : Prop := (∃ mc : Int32, h.1 l = some (0, [.int mc, .ref e, .int (nI bs.length)])) ∧ eH E h e bs cap ∧ cap ≤ 1000
section M22
variable {E : PE} {d : Nat} {h : PH}
theorem take_at {fs : List Value} {bs : List Nat} {k b : Nat} (ht : fs.take bs.length = bs.map Value.ref) (hb : bs[k]? = some b) : fs[k]? = some (.ref b) := by
  have hk : k < bs.length := (List.getElem?_eq_some_iff.mp hb).1
  have h1 : (fs.take bs.length)[k]? = (bs.map Value.ref)[k]? := by rw [ht]
  rw [List.getElem?_take_of_lt hk, List.getElem?_map, hb] at h1
  exact h1
theorem c_lsize {l : Nat} {mc e : Value} {n0 : Int32} (hl : h.1 l = some (0, [mc, e, .int n0])) : Rn E d 131 [.ref l] h (some (.int n0)) h := by
  refine Rn.of (Nat.le_of_ble_eq_true rfl) ?_
  refine Rk.tr (F1 := (131, 1, _, _)) (x_aload_n rfl rfl rfl) ?_
  refine Rk.tr (F1 := (131, 4, _, _)) (x_getf rfl rfl hl rfl) ?_
  exact Rk.end rfl (Or.inr (Or.inl ⟨rfl, _, .int, rfl, rfl, rfl, rfl⟩))
theorem c_chk3 {k n : Nat} (hk : k < n) (hn : n < 2 ^ 31) : Rn E d 143 [.int (nI k), .int (nI n), .null] h (some (.int (nI k))) h := by
  refine Rn.of (Nat.le_of_ble_eq_true rfl) ?_
  refine Rk.tr (F1 := (143, 1, _, _)) (x_iload_n rfl rfl) ?_
  refine Rk.tr (F1 := (143, 4, _, _)) (x_ifF rfl (tg := 9) rfl (show ¬ nI k < nI 0 from Int32.not_lt.mpr (nI_le (by omega) (by omega)))) ?_
  refine Rk.tr (F1 := (143, 5, _, _)) (x_iload_n rfl rfl) ?_
  refine Rk.tr (F1 := (143, 6, _, _)) (x_iload_n rfl rfl) ?_
  refine Rk.tr (F1 := (143, 16, _, _)) (x_icT rfl (tg := 16) rfl (show nI k < nI n from Int32.not_le.mp (nI_ge (by omega) (by omega)))) ?_
  refine Rk.tr (F1 := (143, 17, _, _)) (x_iload_n rfl rfl) ?_
  exact Rk.end rfl (Or.inr (Or.inl ⟨rfl, _, .int, rfl, rfl, rfl, rfl⟩))
theorem c_chk {k n : Nat} (hk : k < n) (hn : n < 2 ^ 31) : Rn E (d + 1) 140 [.int (nI k), .int (nI n)] h (some (.int (nI k))) h := by
  refine Rn.of (Nat.le_of_ble_eq_true rfl) ?_
  refine Rk.tr (F1 := (140, 1, _, _)) (x_iload_n rfl rfl) ?_
  refine Rk.tr (F1 := (140, 2, _, _)) (x_iload_n rfl rfl) ?_
  refine Rk.tr (F1 := (140, 3, _, _)) (x_null rfl) ?_
  refine Rk.tr (F1 := (140, 6, _, _)) (x_calls (As := [_, _, _]) rfl rfl rfl rfl rfl rfl (Nat.le_of_ble_eq_true rfl) (c_chk3 hk hn) rfl) ?_
  exact Rk.end rfl (Or.inr (Or.inl ⟨rfl, _, .int, rfl, rfl, rfl, rfl⟩))
theorem c_eld {l e k b : Nat} {mc n : Value} {fs : List Value} (hl : h.1 l = some (0, [mc, .ref e, n])) (he : h.1 e = some (106, fs)) (hk : fs[k]? = some (.ref b)) (hb : k < 2 ^ 31) : Rn E d 133 [.ref l, .int (nI k)] h (some (.ref b)) h := by
  refine Rn.of (Nat.le_of_ble_eq_true rfl) ?_
  refine Rk.tr (F1 := (133, 1, _, _)) (x_aload_n rfl rfl rfl) ?_
  refine Rk.tr (F1 := (133, 4, _, _)) (x_getf rfl rfl hl rfl) ?_
  refine Rk.tr (F1 := (133, 5, _, _)) (x_iload_n rfl rfl) ?_
  refine Rk.tr (F1 := (133, 6, _, _)) (x_aald rfl he rfl rfl rfl hb hk) ?_
  exact Rk.end rfl (Or.inr (Or.inr (Or.inr ⟨rfl, _, _, rfl, Or.inl ⟨_, rfl⟩, Or.inr ⟨_, rfl⟩, rfl, rfl⟩)))
theorem c_get0 {l e k b n : Nat} {mc : Value} {fs : List Value} (hl : h.1 l = some (0, [mc, .ref e, .int (nI n)])) (he : h.1 e = some (106, fs)) (hk : fs[k]? = some (.ref b)) (hkn : k < n) (hn : n < 2 ^ 31) : Rn E (d + 2) 132 [.ref l, .int (nI k)] h (some (.ref b)) h := by
  refine Rn.of (Nat.le_of_ble_eq_true rfl) ?_
  refine Rk.tr (F1 := (132, 1, _, _)) (x_iload_n rfl rfl) ?_
  refine Rk.tr (F1 := (132, 2, _, _)) (x_aload_n rfl rfl rfl) ?_
  refine Rk.tr (F1 := (132, 5, _, _)) (x_getf rfl rfl hl rfl) ?_
  refine Rk.tr (F1 := (132, 8, _, _)) (x_calls (As := [_, _]) rfl rfl rfl rfl rfl rfl (Nat.le_of_ble_eq_true rfl) (c_chk hkn hn) rfl) ?_
  refine Rk.tr (F1 := (132, 9, _, _)) (x_pop rfl rfl) ?_
  refine Rk.tr (F1 := (132, 10, _, _)) (x_aload_n rfl rfl rfl) ?_
  refine Rk.tr (F1 := (132, 11, _, _)) (x_iload_n rfl rfl) ?_
  refine Rk.tr (F1 := (132, 14, _, _)) (x_callv (As := [_]) rfl rfl rfl (Or.inl rfl) rfl rfl hl (by decide) rfl (Nat.le_of_ble_eq_true rfl) (c_eld (d := d + 1) hl he hk (by omega)) rfl) ?_
  exact Rk.end rfl (Or.inr (Or.inr (Or.inr ⟨rfl, _, _, rfl, Or.inl ⟨_, rfl⟩, Or.inr ⟨_, rfl⟩, rfl, rfl⟩)))
theorem c_get {l e k b cap : Nat} {bs : List Nat} (hL : LH E h l e bs cap) (hb : bs[k]? = some b) : Rn E (d + 2) 132 [.ref l, .int (nI k)] h (some (.ref b)) h := by
  obtain ⟨⟨mc, h1⟩, h2, h3⟩ := hL
  have hk : k < bs.length := (List.getElem?_eq_some_iff.mp hb).1
  rcases h2 with ⟨-, h2, -⟩ | ⟨fs, f1, f2, f3, f4, -⟩
  · rw [h2] at hk; exact absurd hk (Nat.not_lt_zero _)
  · exact c_get0 h1 f1 (take_at f3 hb) hk (by omega)
end M22
