theorem pchk_0 : ((List.range 8).map (· + 0)).all pchk = true := by decide +kernel
theorem pchk_8 : ((List.range 8).map (· + 8)).all pchk = true := by decide +kernel
theorem pchk_16 : ((List.range 8).map (· + 16)).all pchk = true := by decide +kernel
theorem pchk_24 : ((List.range 8).map (· + 24)).all pchk = true := by decide +kernel
theorem pchk_32 : ((List.range 8).map (· + 32)).all pchk = true := by decide +kernel
theorem pchk_40 : ((List.range 8).map (· + 40)).all pchk = true := by decide +kernel
theorem pchk_48 : ((List.range 8).map (· + 48)).all pchk = true := by decide +kernel
theorem pchk_56 : ((List.range 8).map (· + 56)).all pchk = true := by decide +kernel
theorem pchk_64 : ((List.range 8).map (· + 64)).all pchk = true := by decide +kernel
theorem pchk_72 : ((List.range 8).map (· + 72)).all pchk = true := by decide +kernel
theorem pchk_80 : ((List.range 8).map (· + 80)).all pchk = true := by decide +kernel
theorem pchk_88 : ((List.range 8).map (· + 88)).all pchk = true := by decide +kernel
theorem pchk_96 : ((List.range 8).map (· + 96)).all pchk = true := by decide +kernel
theorem pchk_104 : ((List.range 8).map (· + 104)).all pchk = true := by decide +kernel
theorem pchk_112 : ((List.range 8).map (· + 112)).all pchk = true := by decide +kernel
theorem pchk_120 : ((List.range 8).map (· + 120)).all pchk = true := by decide +kernel
theorem pchk_128 : ((List.range 8).map (· + 128)).all pchk = true := by decide +kernel
theorem pchk_136 : ((List.range 8).map (· + 136)).all pchk = true := by decide +kernel
theorem pchk_144 : ((List.range 8).map (· + 144)).all pchk = true := by decide +kernel
theorem pchk_all {m : Nat} (h : m < 152) : pchk m = true := by
  by_cases h0 : m < 8
  · exact List.all_eq_true.mp pchk_0 m (List.mem_map.mpr ⟨m - 0, List.mem_range.mpr (by omega), by omega⟩)
  by_cases h8 : m < 16
  · exact List.all_eq_true.mp pchk_8 m (List.mem_map.mpr ⟨m - 8, List.mem_range.mpr (by omega), by omega⟩)
  by_cases h16 : m < 24
  · exact List.all_eq_true.mp pchk_16 m (List.mem_map.mpr ⟨m - 16, List.mem_range.mpr (by omega), by omega⟩)
  by_cases h24 : m < 32
  · exact List.all_eq_true.mp pchk_24 m (List.mem_map.mpr ⟨m - 24, List.mem_range.mpr (by omega), by omega⟩)
  by_cases h32 : m < 40
  · exact List.all_eq_true.mp pchk_32 m (List.mem_map.mpr ⟨m - 32, List.mem_range.mpr (by omega), by omega⟩)
  by_cases h40 : m < 48
  · exact List.all_eq_true.mp pchk_40 m (List.mem_map.mpr ⟨m - 40, List.mem_range.mpr (by omega), by omega⟩)
  by_cases h48 : m < 56
  · exact List.all_eq_true.mp pchk_48 m (List.mem_map.mpr ⟨m - 48, List.mem_range.mpr (by omega), by omega⟩)
  by_cases h56 : m < 64
  · exact List.all_eq_true.mp pchk_56 m (List.mem_map.mpr ⟨m - 56, List.mem_range.mpr (by omega), by omega⟩)
  by_cases h64 : m < 72
  · exact List.all_eq_true.mp pchk_64 m (List.mem_map.mpr ⟨m - 64, List.mem_range.mpr (by omega), by omega⟩)
  by_cases h72 : m < 80
  · exact List.all_eq_true.mp pchk_72 m (List.mem_map.mpr ⟨m - 72, List.mem_range.mpr (by omega), by omega⟩)
  by_cases h80 : m < 88
  · exact List.all_eq_true.mp pchk_80 m (List.mem_map.mpr ⟨m - 80, List.mem_range.mpr (by omega), by omega⟩)
  by_cases h88 : m < 96
  · exact List.all_eq_true.mp pchk_88 m (List.mem_map.mpr ⟨m - 88, List.mem_range.mpr (by omega), by omega⟩)
  by_cases h96 : m < 104
  · exact List.all_eq_true.mp pchk_96 m (List.mem_map.mpr ⟨m - 96, List.mem_range.mpr (by omega), by omega⟩)
  by_cases h104 : m < 112
  · exact List.all_eq_true.mp pchk_104 m (List.mem_map.mpr ⟨m - 104, List.mem_range.mpr (by omega), by omega⟩)
  by_cases h112 : m < 120
  · exact List.all_eq_true.mp pchk_112 m (List.mem_map.mpr ⟨m - 112, List.mem_range.mpr (by omega), by omega⟩)
  by_cases h120 : m < 128
  · exact List.all_eq_true.mp pchk_120 m (List.mem_map.mpr ⟨m - 120, List.mem_range.mpr (by omega), by omega⟩)
  by_cases h128 : m < 136
  · exact List.all_eq_true.mp pchk_128 m (List.mem_map.mpr ⟨m - 128, List.mem_range.mpr (by omega), by omega⟩)
  by_cases h136 : m < 144
  · exact List.all_eq_true.mp pchk_136 m (List.mem_map.mpr ⟨m - 136, List.mem_range.mpr (by omega), by omega⟩)
  exact List.all_eq_true.mp pchk_144 m (List.mem_map.mpr ⟨m - 144, List.mem_range.mpr (by omega), by omega⟩)
theorem ptabs_len : ptabs.length = 152 := by decide +kernel
theorem pin_lt {m pc : Nat} {r : Instr × Nat} (h : pin m pc = some r) : m < 152 := by
  rcases Nat.lt_or_ge m 152 with h1 | h1
  · exact h1
  · have e : ptabs.getD m [] = [] := by
      rw [List.getD_eq_getElem?_getD, List.getElem?_eq_none (by rw [ptabs_len]; exact h1)]
      rfl
    unfold pin at h
    rw [e] at h
    cases h
theorem pin_dec {m pc n : Nat} {i : Instr} (h : pin m pc = some (i, n)) : decode (mbyt m) pc = .ok (i, n) := by
  have hm := pin_lt h
  unfold pin at h
  cases hf : (ptabs.getD m []).find? (fun q => q.1 == pc) with
  | none => rw [hf] at h; cases h
  | some q =>
    rw [hf] at h
    have e1 := List.mem_of_find?_eq_some hf
    have e2 := List.find?_some hf
    have e3 := List.all_eq_true.mp (pchk_all hm) q e1
    have e4 : q.1 = pc := by simpa using e2
    rw [e4] at e3
    have e5 : q.2 = (i, n) := Option.some.inj h
    cases hd : decode (mbyt m) pc with
    | error x => rw [hd] at e3; cases e3
    | ok r =>
      rw [hd] at e3
      have e6 : r = q.2 := of_decide_eq_true e3
      rw [e6, e5]
