/-! ===== the law's own methods, each: what was returned is in the array; what was thrown has a number ===== -/
theorem xl_in {w : Cond} (h : decide (w ∈ lw_tbl) = true) (g : goodWord w = true) : w ∈ gtbl := List.mem_filter.mpr ⟨of_decide_eq_true h, g⟩
theorem xl13 : Cond.classLink "TermSimplifierLaw" 13 (xcl 0).1 ∈ gtbl := xl_in (by decide +kernel) rfl
theorem xl15 : Cond.classLink "TermSimplifierLaw" 15 (xcl 1).1 ∈ gtbl := xl_in (by decide +kernel) rfl
theorem xl20 : Cond.classLink "TermSimplifierLaw" 20 (xcl 2).1 ∈ gtbl := xl_in (by decide +kernel) rfl
theorem xl29 : Cond.classLink "TermSimplifierLaw" 29 (xcl 3).1 ∈ gtbl := xl_in (by decide +kernel) rfl
theorem xc0 : Cond.castable (xcl 0).1 (xcl 0).1 ∈ xbad := by unfold xbad; simp
theorem xc1 : Cond.castable (xcl 1).1 (xcl 1).1 ∈ xbad := by unfold xbad; simp
theorem xc2 : Cond.castable (xcl 2).1 (xcl 2).1 ∈ xbad := by unfold xbad; simp
theorem xc3 : Cond.castable (xcl 3).1 (xcl 3).1 ∈ xbad := by unfold xbad; simp
section M96
variable {E : PE} {d : Nat} {h h1 : PH} {x y : Nat} {fs : List Value}
theorem w_144 {r : Int32} {v0 : Int64} (hx : h.1 x = some (9, fs)) (hr : Rn E d 55 [.ref x] h (some (.int r)) h1) (hy : h1.1 y = some (101, [.long v0])) : Wn E (d + 1) 144 [.ref x, .ref y] h 0 (pset h1 y (101, [.long r.toInt64])) := by
  refine Wn.ret wr144 (Nat.le_of_ble_eq_true rfl) (L := pent [.ref x, .ref y] 3) (pc := 18) ?_ rfl
  refine Ex.tr (F1 := (144, 1, _, _)) (x_aload_n rfl rfl rfl) ?_
  refine Ex.tr (F1 := (144, 2, _, _)) (x_iconst rfl) ?_
  refine Ex.tr (F1 := (144, 3, _, _)) (x_aload_n rfl rfl rfl) ?_
  refine Ex.tr (F1 := (144, 6, _, _)) (x_callv (As := []) rfl rfl rfl (Or.inl rfl) rfl rfl hx (by decide) rfl (Nat.le_of_ble_eq_true rfl) hr rfl) ?_
  refine Ex.tr (F1 := (144, 7, _, _)) (x_i2l rfl) ?_
  refine Ex.tr (F1 := (144, 8, _, _)) (x_last (n := 0) rfl hy rfl (by decide) rfl (by decide) (show (0 : Nat) < 1 by decide)) ?_
  refine Ex.tr (F1 := (144, 17, _, _)) (x_goto rfl rfl) ?_
  refine Ex.tr (F1 := (144, 18, _, _)) (x_iconst rfl) ?_
  exact Ex.rf
theorem w_144a (hx : h.1 x = some (9, fs)) (hr : Rt E d 55 [.ref x] h 0 h1) : Wn E (d + 1) 144 [.ref x, .ref y] h 1 h1 := by
  refine Wn.thr (d := d) (pc := 3) (pc2 := 13) (Bs := []) (rest := [.int 0, .ref y]) (L := pent [.ref x, .ref y] 3) wr144 (Nat.le_of_ble_eq_true rfl) ?_ rfl rfl rfl (Or.inl rfl) rfl hx (by decide) rfl (Nat.le_of_ble_eq_true rfl) hr [] ({ startPc := 0, endPc := 8, handlerPc := 11, catchType := 13 } : ExceptionTableEntry) [({ startPc := 0, endPc := 8, handlerPc := 14, catchType := 15 } : ExceptionTableEntry)] rfl (fun _ hq => nomatch hq) (by decide) (by decide) xl13 xc0 (fun q => ⟨pst1 (pent [.ref x, .ref y] 3) 2 (.ref q), ?_⟩) rfl
  · refine Ex.tr (F1 := (144, 1, _, _)) (x_aload_n rfl rfl rfl) ?_
    refine Ex.tr (F1 := (144, 2, _, _)) (x_iconst rfl) ?_
    exact (x_aload_n rfl rfl rfl)
  · refine Ex.tr (F1 := (144, 12, _, _)) (x_astore_n (i := 2) rfl (Nat.le_of_ble_eq_true rfl)) ?_
    refine Ex.tr (F1 := (144, 13, _, _)) (x_iconst rfl) ?_
    exact Ex.rf
theorem w_144b (hx : h.1 x = some (9, fs)) (hr : Rt E d 55 [.ref x] h 1 h1) : Wn E (d + 1) 144 [.ref x, .ref y] h 2 h1 := by
  refine Wn.thr (d := d) (pc := 3) (pc2 := 16) (Bs := []) (rest := [.int 0, .ref y]) (L := pent [.ref x, .ref y] 3) wr144 (Nat.le_of_ble_eq_true rfl) ?_ rfl rfl rfl (Or.inl rfl) rfl hx (by decide) rfl (Nat.le_of_ble_eq_true rfl) hr [({ startPc := 0, endPc := 8, handlerPc := 11, catchType := 13 } : ExceptionTableEntry)] ({ startPc := 0, endPc := 8, handlerPc := 14, catchType := 15 } : ExceptionTableEntry) [] rfl (List.forall_mem_cons.mpr ⟨⟨by decide, _, xl13, fun s hs => hs.2.2.2.2⟩, fun _ hq => nomatch hq⟩) (by decide) (by decide) xl15 xc1 (fun q => ⟨pst1 (pent [.ref x, .ref y] 3) 2 (.ref q), ?_⟩) rfl
  · refine Ex.tr (F1 := (144, 1, _, _)) (x_aload_n rfl rfl rfl) ?_
    refine Ex.tr (F1 := (144, 2, _, _)) (x_iconst rfl) ?_
    exact (x_aload_n rfl rfl rfl)
  · refine Ex.tr (F1 := (144, 15, _, _)) (x_astore_n (i := 2) rfl (Nat.le_of_ble_eq_true rfl)) ?_
    refine Ex.tr (F1 := (144, 16, _, _)) (x_iconst rfl) ?_
    exact Ex.rf
theorem w_145 {r : Int32} {v0 : Int64} (hx : h.1 x = some (9, fs)) (hr : Rn E d 56 [.ref x] h (some (.int r)) h1) (hy : h1.1 y = some (101, [.long v0])) : Wn E (d + 1) 145 [.ref x, .ref y] h 0 (pset h1 y (101, [.long r.toInt64])) := by
  refine Wn.ret wr145 (Nat.le_of_ble_eq_true rfl) (L := pent [.ref x, .ref y] 3) (pc := 15) ?_ rfl
  refine Ex.tr (F1 := (145, 1, _, _)) (x_aload_n rfl rfl rfl) ?_
  refine Ex.tr (F1 := (145, 2, _, _)) (x_iconst rfl) ?_
  refine Ex.tr (F1 := (145, 3, _, _)) (x_aload_n rfl rfl rfl) ?_
  refine Ex.tr (F1 := (145, 6, _, _)) (x_callv (As := []) rfl rfl rfl (Or.inl rfl) rfl rfl hx (by decide) rfl (Nat.le_of_ble_eq_true rfl) hr rfl) ?_
  refine Ex.tr (F1 := (145, 7, _, _)) (x_i2l rfl) ?_
  refine Ex.tr (F1 := (145, 8, _, _)) (x_last (n := 0) rfl hy rfl (by decide) rfl (by decide) (show (0 : Nat) < 1 by decide)) ?_
  refine Ex.tr (F1 := (145, 14, _, _)) (x_goto rfl rfl) ?_
  refine Ex.tr (F1 := (145, 15, _, _)) (x_iconst rfl) ?_
  exact Ex.rf
theorem w_145a (hx : h.1 x = some (9, fs)) (hr : Rt E d 56 [.ref x] h 2 h1) : Wn E (d + 1) 145 [.ref x, .ref y] h 1 h1 := by
  refine Wn.thr (d := d) (pc := 3) (pc2 := 13) (Bs := []) (rest := [.int 0, .ref y]) (L := pent [.ref x, .ref y] 3) wr145 (Nat.le_of_ble_eq_true rfl) ?_ rfl rfl rfl (Or.inl rfl) rfl hx (by decide) rfl (Nat.le_of_ble_eq_true rfl) hr [] ({ startPc := 0, endPc := 8, handlerPc := 11, catchType := 20 } : ExceptionTableEntry) [] rfl (fun _ hq => nomatch hq) (by decide) (by decide) xl20 xc2 (fun q => ⟨pst1 (pent [.ref x, .ref y] 3) 2 (.ref q), ?_⟩) rfl
  · refine Ex.tr (F1 := (145, 1, _, _)) (x_aload_n rfl rfl rfl) ?_
    refine Ex.tr (F1 := (145, 2, _, _)) (x_iconst rfl) ?_
    exact (x_aload_n rfl rfl rfl)
  · refine Ex.tr (F1 := (145, 12, _, _)) (x_astore_n (i := 2) rfl (Nat.le_of_ble_eq_true rfl)) ?_
    refine Ex.tr (F1 := (145, 13, _, _)) (x_iconst rfl) ?_
    exact Ex.rf
theorem w_146 {r : Int32} {v0 : Int64} (hx : h.1 x = some (9, fs)) (hr : Rn E d 59 [.ref x] h (some (.int r)) h1) (hy : h1.1 y = some (101, [.long v0])) : Wn E (d + 1) 146 [.ref x, .ref y] h 0 (pset h1 y (101, [.long r.toInt64])) := by
  refine Wn.ret wr146 (Nat.le_of_ble_eq_true rfl) (L := pent [.ref x, .ref y] 3) (pc := 15) ?_ rfl
  refine Ex.tr (F1 := (146, 1, _, _)) (x_aload_n rfl rfl rfl) ?_
  refine Ex.tr (F1 := (146, 2, _, _)) (x_iconst rfl) ?_
  refine Ex.tr (F1 := (146, 3, _, _)) (x_aload_n rfl rfl rfl) ?_
  refine Ex.tr (F1 := (146, 6, _, _)) (x_callv (As := []) rfl rfl rfl (Or.inl rfl) rfl rfl hx (by decide) rfl (Nat.le_of_ble_eq_true rfl) hr rfl) ?_
  refine Ex.tr (F1 := (146, 7, _, _)) (x_i2l rfl) ?_
  refine Ex.tr (F1 := (146, 8, _, _)) (x_last (n := 0) rfl hy rfl (by decide) rfl (by decide) (show (0 : Nat) < 1 by decide)) ?_
  refine Ex.tr (F1 := (146, 14, _, _)) (x_goto rfl rfl) ?_
  refine Ex.tr (F1 := (146, 15, _, _)) (x_iconst rfl) ?_
  exact Ex.rf
theorem w_146a (hx : h.1 x = some (9, fs)) (hr : Rt E d 59 [.ref x] h 2 h1) : Wn E (d + 1) 146 [.ref x, .ref y] h 1 h1 := by
  refine Wn.thr (d := d) (pc := 3) (pc2 := 13) (Bs := []) (rest := [.int 0, .ref y]) (L := pent [.ref x, .ref y] 3) wr146 (Nat.le_of_ble_eq_true rfl) ?_ rfl rfl rfl (Or.inl rfl) rfl hx (by decide) rfl (Nat.le_of_ble_eq_true rfl) hr [] ({ startPc := 0, endPc := 8, handlerPc := 11, catchType := 20 } : ExceptionTableEntry) [] rfl (fun _ hq => nomatch hq) (by decide) (by decide) xl20 xc2 (fun q => ⟨pst1 (pent [.ref x, .ref y] 3) 2 (.ref q), ?_⟩) rfl
  · refine Ex.tr (F1 := (146, 1, _, _)) (x_aload_n rfl rfl rfl) ?_
    refine Ex.tr (F1 := (146, 2, _, _)) (x_iconst rfl) ?_
    exact (x_aload_n rfl rfl rfl)
  · refine Ex.tr (F1 := (146, 12, _, _)) (x_astore_n (i := 2) rfl (Nat.le_of_ble_eq_true rfl)) ?_
    refine Ex.tr (F1 := (146, 13, _, _)) (x_iconst rfl) ?_
    exact Ex.rf
theorem w_147 {p : Int32} {r : Int32} {v0 : Int64} (hx : h.1 x = some (9, fs)) (hr : Rn E d 60 [.ref x, .int p] h (some (.int r)) h1) (hy : h1.1 y = some (101, [.long v0])) : Wn E (d + 1) 147 [.ref x, .int p, .ref y] h 0 (pset h1 y (101, [.long r.toInt64])) := by
  refine Wn.ret wr147 (Nat.le_of_ble_eq_true rfl) (L := pent [.ref x, .int p, .ref y] 4) (pc := 16) ?_ rfl
  refine Ex.tr (F1 := (147, 1, _, _)) (x_aload_n rfl rfl rfl) ?_
  refine Ex.tr (F1 := (147, 2, _, _)) (x_iconst rfl) ?_
  refine Ex.tr (F1 := (147, 3, _, _)) (x_aload_n rfl rfl rfl) ?_
  refine Ex.tr (F1 := (147, 4, _, _)) (x_iload_n rfl rfl) ?_
  refine Ex.tr (F1 := (147, 7, _, _)) (x_callv (As := [.int p]) rfl rfl rfl (Or.inl rfl) rfl rfl hx (by decide) rfl (Nat.le_of_ble_eq_true rfl) hr rfl) ?_
  refine Ex.tr (F1 := (147, 8, _, _)) (x_i2l rfl) ?_
  refine Ex.tr (F1 := (147, 9, _, _)) (x_last (n := 0) rfl hy rfl (by decide) rfl (by decide) (show (0 : Nat) < 1 by decide)) ?_
  refine Ex.tr (F1 := (147, 15, _, _)) (x_goto rfl rfl) ?_
  refine Ex.tr (F1 := (147, 16, _, _)) (x_iconst rfl) ?_
  exact Ex.rf
theorem w_147a {p : Int32} (hx : h.1 x = some (9, fs)) (hr : Rt E d 60 [.ref x, .int p] h 3 h1) : Wn E (d + 1) 147 [.ref x, .int p, .ref y] h 1 h1 := by
  refine Wn.thr (d := d) (pc := 4) (pc2 := 14) (Bs := [.int p]) (rest := [.int 0, .ref y]) (L := pent [.ref x, .int p, .ref y] 4) wr147 (Nat.le_of_ble_eq_true rfl) ?_ rfl rfl rfl (Or.inl rfl) rfl hx (by decide) rfl (Nat.le_of_ble_eq_true rfl) hr [] ({ startPc := 0, endPc := 9, handlerPc := 12, catchType := 29 } : ExceptionTableEntry) [] rfl (fun _ hq => nomatch hq) (by decide) (by decide) xl29 xc3 (fun q => ⟨pst1 (pent [.ref x, .int p, .ref y] 4) 3 (.ref q), ?_⟩) rfl
  · refine Ex.tr (F1 := (147, 1, _, _)) (x_aload_n rfl rfl rfl) ?_
    refine Ex.tr (F1 := (147, 2, _, _)) (x_iconst rfl) ?_
    refine Ex.tr (F1 := (147, 3, _, _)) (x_aload_n rfl rfl rfl) ?_
    exact (x_iload_n rfl rfl)
  · refine Ex.tr (F1 := (147, 13, _, _)) (x_astore_n (i := 3) rfl (Nat.le_of_ble_eq_true rfl)) ?_
    refine Ex.tr (F1 := (147, 14, _, _)) (x_iconst rfl) ?_
    exact Ex.rf
theorem w_148 {p : Int32} {r : Int32} {v0 : Int64} (hx : h.1 x = some (9, fs)) (hr : Rn E d 61 [.ref x, .int p] h (some (.int r)) h1) (hy : h1.1 y = some (101, [.long v0])) : Wn E (d + 1) 148 [.ref x, .int p, .ref y] h 0 (pset h1 y (101, [.long r.toInt64])) := by
  refine Wn.ret wr148 (Nat.le_of_ble_eq_true rfl) (L := pent [.ref x, .int p, .ref y] 4) (pc := 16) ?_ rfl
  refine Ex.tr (F1 := (148, 1, _, _)) (x_aload_n rfl rfl rfl) ?_
  refine Ex.tr (F1 := (148, 2, _, _)) (x_iconst rfl) ?_
  refine Ex.tr (F1 := (148, 3, _, _)) (x_aload_n rfl rfl rfl) ?_
  refine Ex.tr (F1 := (148, 4, _, _)) (x_iload_n rfl rfl) ?_
  refine Ex.tr (F1 := (148, 7, _, _)) (x_callv (As := [.int p]) rfl rfl rfl (Or.inl rfl) rfl rfl hx (by decide) rfl (Nat.le_of_ble_eq_true rfl) hr rfl) ?_
  refine Ex.tr (F1 := (148, 8, _, _)) (x_i2l rfl) ?_
  refine Ex.tr (F1 := (148, 9, _, _)) (x_last (n := 0) rfl hy rfl (by decide) rfl (by decide) (show (0 : Nat) < 1 by decide)) ?_
  refine Ex.tr (F1 := (148, 15, _, _)) (x_goto rfl rfl) ?_
  refine Ex.tr (F1 := (148, 16, _, _)) (x_iconst rfl) ?_
  exact Ex.rf
theorem w_148a {p : Int32} (hx : h.1 x = some (9, fs)) (hr : Rt E d 61 [.ref x, .int p] h 3 h1) : Wn E (d + 1) 148 [.ref x, .int p, .ref y] h 1 h1 := by
  refine Wn.thr (d := d) (pc := 4) (pc2 := 14) (Bs := [.int p]) (rest := [.int 0, .ref y]) (L := pent [.ref x, .int p, .ref y] 4) wr148 (Nat.le_of_ble_eq_true rfl) ?_ rfl rfl rfl (Or.inl rfl) rfl hx (by decide) rfl (Nat.le_of_ble_eq_true rfl) hr [] ({ startPc := 0, endPc := 9, handlerPc := 12, catchType := 29 } : ExceptionTableEntry) [] rfl (fun _ hq => nomatch hq) (by decide) (by decide) xl29 xc3 (fun q => ⟨pst1 (pent [.ref x, .int p, .ref y] 4) 3 (.ref q), ?_⟩) rfl
  · refine Ex.tr (F1 := (148, 1, _, _)) (x_aload_n rfl rfl rfl) ?_
    refine Ex.tr (F1 := (148, 2, _, _)) (x_iconst rfl) ?_
    refine Ex.tr (F1 := (148, 3, _, _)) (x_aload_n rfl rfl rfl) ?_
    exact (x_iload_n rfl rfl)
  · refine Ex.tr (F1 := (148, 13, _, _)) (x_astore_n (i := 3) rfl (Nat.le_of_ble_eq_true rfl)) ?_
    refine Ex.tr (F1 := (148, 14, _, _)) (x_iconst rfl) ?_
    exact Ex.rf
theorem w_149 {r : Int32} {v0 : Int64} (hx : h.1 x = some (9, fs)) (hr : Rn E d 62 [.ref x] h (some (.int r)) h1) (hy : h1.1 y = some (101, [.long v0])) : Wn E (d + 1) 149 [.ref x, .ref y] h 0 (pset h1 y (101, [.long r.toInt64])) := by
  refine Wn.ret wr149 (Nat.le_of_ble_eq_true rfl) (L := pent [.ref x, .ref y] 3) (pc := 15) ?_ rfl
  refine Ex.tr (F1 := (149, 1, _, _)) (x_aload_n rfl rfl rfl) ?_
  refine Ex.tr (F1 := (149, 2, _, _)) (x_iconst rfl) ?_
  refine Ex.tr (F1 := (149, 3, _, _)) (x_aload_n rfl rfl rfl) ?_
  refine Ex.tr (F1 := (149, 6, _, _)) (x_callv (As := []) rfl rfl rfl (Or.inl rfl) rfl rfl hx (by decide) rfl (Nat.le_of_ble_eq_true rfl) hr rfl) ?_
  refine Ex.tr (F1 := (149, 7, _, _)) (x_i2l rfl) ?_
  refine Ex.tr (F1 := (149, 8, _, _)) (x_last (n := 0) rfl hy rfl (by decide) rfl (by decide) (show (0 : Nat) < 1 by decide)) ?_
  refine Ex.tr (F1 := (149, 14, _, _)) (x_goto rfl rfl) ?_
  refine Ex.tr (F1 := (149, 15, _, _)) (x_iconst rfl) ?_
  exact Ex.rf
theorem w_149a (hx : h.1 x = some (9, fs)) (hr : Rt E d 62 [.ref x] h 2 h1) : Wn E (d + 1) 149 [.ref x, .ref y] h 1 h1 := by
  refine Wn.thr (d := d) (pc := 3) (pc2 := 13) (Bs := []) (rest := [.int 0, .ref y]) (L := pent [.ref x, .ref y] 3) wr149 (Nat.le_of_ble_eq_true rfl) ?_ rfl rfl rfl (Or.inl rfl) rfl hx (by decide) rfl (Nat.le_of_ble_eq_true rfl) hr [] ({ startPc := 0, endPc := 8, handlerPc := 11, catchType := 20 } : ExceptionTableEntry) [] rfl (fun _ hq => nomatch hq) (by decide) (by decide) xl20 xc2 (fun q => ⟨pst1 (pent [.ref x, .ref y] 3) 2 (.ref q), ?_⟩) rfl
  · refine Ex.tr (F1 := (149, 1, _, _)) (x_aload_n rfl rfl rfl) ?_
    refine Ex.tr (F1 := (149, 2, _, _)) (x_iconst rfl) ?_
    exact (x_aload_n rfl rfl rfl)
  · refine Ex.tr (F1 := (149, 12, _, _)) (x_astore_n (i := 2) rfl (Nat.le_of_ble_eq_true rfl)) ?_
    refine Ex.tr (F1 := (149, 13, _, _)) (x_iconst rfl) ?_
    exact Ex.rf
theorem w_150 {p : Int32} {r : Int32} {v0 : Int64} (hx : h.1 x = some (9, fs)) (hr : Rn E d 63 [.ref x, .int p] h (some (.int r)) h1) (hy : h1.1 y = some (101, [.long v0])) : Wn E (d + 1) 150 [.ref x, .int p, .ref y] h 0 (pset h1 y (101, [.long r.toInt64])) := by
  refine Wn.ret wr150 (Nat.le_of_ble_eq_true rfl) (L := pent [.ref x, .int p, .ref y] 4) (pc := 16) ?_ rfl
  refine Ex.tr (F1 := (150, 1, _, _)) (x_aload_n rfl rfl rfl) ?_
  refine Ex.tr (F1 := (150, 2, _, _)) (x_iconst rfl) ?_
  refine Ex.tr (F1 := (150, 3, _, _)) (x_aload_n rfl rfl rfl) ?_
  refine Ex.tr (F1 := (150, 4, _, _)) (x_iload_n rfl rfl) ?_
  refine Ex.tr (F1 := (150, 7, _, _)) (x_callv (As := [.int p]) rfl rfl rfl (Or.inl rfl) rfl rfl hx (by decide) rfl (Nat.le_of_ble_eq_true rfl) hr rfl) ?_
  refine Ex.tr (F1 := (150, 8, _, _)) (x_i2l rfl) ?_
  refine Ex.tr (F1 := (150, 9, _, _)) (x_last (n := 0) rfl hy rfl (by decide) rfl (by decide) (show (0 : Nat) < 1 by decide)) ?_
  refine Ex.tr (F1 := (150, 15, _, _)) (x_goto rfl rfl) ?_
  refine Ex.tr (F1 := (150, 16, _, _)) (x_iconst rfl) ?_
  exact Ex.rf
theorem w_150a {p : Int32} (hx : h.1 x = some (9, fs)) (hr : Rt E d 63 [.ref x, .int p] h 3 h1) : Wn E (d + 1) 150 [.ref x, .int p, .ref y] h 1 h1 := by
  refine Wn.thr (d := d) (pc := 4) (pc2 := 14) (Bs := [.int p]) (rest := [.int 0, .ref y]) (L := pent [.ref x, .int p, .ref y] 4) wr150 (Nat.le_of_ble_eq_true rfl) ?_ rfl rfl rfl (Or.inl rfl) rfl hx (by decide) rfl (Nat.le_of_ble_eq_true rfl) hr [] ({ startPc := 0, endPc := 9, handlerPc := 12, catchType := 29 } : ExceptionTableEntry) [] rfl (fun _ hq => nomatch hq) (by decide) (by decide) xl29 xc3 (fun q => ⟨pst1 (pent [.ref x, .int p, .ref y] 4) 3 (.ref q), ?_⟩) rfl
  · refine Ex.tr (F1 := (150, 1, _, _)) (x_aload_n rfl rfl rfl) ?_
    refine Ex.tr (F1 := (150, 2, _, _)) (x_iconst rfl) ?_
    refine Ex.tr (F1 := (150, 3, _, _)) (x_aload_n rfl rfl rfl) ?_
    exact (x_iload_n rfl rfl)
  · refine Ex.tr (F1 := (150, 13, _, _)) (x_astore_n (i := 3) rfl (Nat.le_of_ble_eq_true rfl)) ?_
    refine Ex.tr (F1 := (150, 14, _, _)) (x_iconst rfl) ?_
    exact Ex.rf
end M96
