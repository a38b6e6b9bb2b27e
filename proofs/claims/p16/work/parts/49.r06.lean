/-! ===== rules, proved (written by wip/vse8/mkrule.py) ===== -/
noncomputable def ru_slv : RU := (5, [(231, [((.ofNat 0), [(0, (.ofNat 1))]), ((.ofNat 0), [(1, (.ofNat 1))]), ((.ofNat 0), [(2, (.ofNat 1))])]), (201, [((.ofNat 0), [(2, (.ofNat 1))]), ((.ofNat 2), [(3, (.ofNat 3))]), ((.ofNat 0), [(4, (.ofNat 1))])])], [((.ofNat 0), [(3, (.negSucc 0))]), ((.ofNat 1), [(0, (.negSucc 0)), (3, (.ofNat 1))])], [], [((.ofNat 1), [(4, (.negSucc 0))]), ((.negSucc 39), [(4, (.ofNat 1))])], [], 0, false)
theorem ru_slv_ok : RuOk ru_slv := by
  refine ⟨by decide, fun ρ hp hf => ?_⟩
  have h0 : w231 (ρ 0) (ρ 1) (ρ 2) := by
    have q : w231 (0 + (1 * ρ 0 + 0)) (0 + (1 * ρ 1 + 0)) (0 + (1 * ρ 2 + 0)) := hp _ List.mem_cons_self
    simpa only [Int.zero_add, Int.add_zero, Int.one_mul] using q
  have h1 : w201 (ρ 2) (2 + 3 * ρ 3) (ρ 4) := by
    have q : w201 (0 + (1 * ρ 2 + 0)) (2 + (3 * ρ 3 + 0)) (0 + (1 * ρ 4 + 0)) := hp _ (List.mem_cons_of_mem _ List.mem_cons_self)
    simpa only [Int.zero_add, Int.add_zero, Int.one_mul] using q
  have f0 : (0 + ((-1) * ρ 3 + 0)) ≤ 0 := hf _ List.mem_cons_self
  have f1 : (1 + ((-1) * ρ 0 + (1 * ρ 3 + 0))) ≤ 0 := hf _ (List.mem_cons_of_mem _ List.mem_cons_self)
  clear hp hf
  refine ⟨rfl, ρ, agr2.rf, ?_, ?_⟩
  · exact fun _ h => (by cases h)
  · refine List.forall_mem_cons.mpr ⟨?_, ?_⟩
    · show (1 + ((-1) * ρ 4 + 0)) ≤ 0
      try simp only [Int.zero_add, Int.add_zero, Int.one_mul]
      have q := w231_t h0 h1 (by omega) (by omega)
      omega
    · refine List.forall_mem_cons.mpr ⟨?_, ?_⟩
      · show ((-40) + (1 * ρ 4 + 0)) ≤ 0
        try simp only [Int.zero_add, Int.add_zero, Int.one_mul]
        have q := w231_t h0 h1 (by omega) (by omega)
        omega
      · exact fun _ h => (by cases h)
noncomputable def ru_slvm : RU := (5, [(231, [((.ofNat 0), [(0, (.ofNat 1))]), ((.ofNat 0), [(1, (.ofNat 1))]), ((.ofNat 0), [(2, (.ofNat 1))])]), (201, [((.ofNat 0), [(1, (.ofNat 1))]), ((.ofNat 2), [(3, (.ofNat 3))]), ((.ofNat 0), [(4, (.ofNat 1))])])], [((.ofNat 0), [(3, (.negSucc 0))]), ((.ofNat 1), [(0, (.negSucc 0)), (3, (.ofNat 1))])], [], [((.ofNat 1), [(4, (.negSucc 0))]), ((.negSucc 39), [(4, (.ofNat 1))])], [], 0, false)
theorem ru_slvm_ok : RuOk ru_slvm := by
  refine ⟨by decide, fun ρ hp hf => ?_⟩
  have h0 : w231 (ρ 0) (ρ 1) (ρ 2) := by
    have q : w231 (0 + (1 * ρ 0 + 0)) (0 + (1 * ρ 1 + 0)) (0 + (1 * ρ 2 + 0)) := hp _ List.mem_cons_self
    simpa only [Int.zero_add, Int.add_zero, Int.one_mul] using q
  have h1 : w201 (ρ 1) (2 + 3 * ρ 3) (ρ 4) := by
    have q : w201 (0 + (1 * ρ 1 + 0)) (2 + (3 * ρ 3 + 0)) (0 + (1 * ρ 4 + 0)) := hp _ (List.mem_cons_of_mem _ List.mem_cons_self)
    simpa only [Int.zero_add, Int.add_zero, Int.one_mul] using q
  have f0 : (0 + ((-1) * ρ 3 + 0)) ≤ 0 := hf _ List.mem_cons_self
  have f1 : (1 + ((-1) * ρ 0 + (1 * ρ 3 + 0))) ≤ 0 := hf _ (List.mem_cons_of_mem _ List.mem_cons_self)
  clear hp hf
  refine ⟨rfl, ρ, agr2.rf, ?_, ?_⟩
  · exact fun _ h => (by cases h)
  · refine List.forall_mem_cons.mpr ⟨?_, ?_⟩
    · show (1 + ((-1) * ρ 4 + 0)) ≤ 0
      try simp only [Int.zero_add, Int.add_zero, Int.one_mul]
      have q := w231_tm h0 h1 (by omega) (by omega)
      omega
    · refine List.forall_mem_cons.mpr ⟨?_, ?_⟩
      · show ((-40) + (1 * ρ 4 + 0)) ≤ 0
        try simp only [Int.zero_add, Int.add_zero, Int.one_mul]
        have q := w231_tm h0 h1 (by omega) (by omega)
        omega
      · exact fun _ h => (by cases h)
noncomputable def ru_slpm : RU := (5, [(231, [((.ofNat 0), [(0, (.ofNat 1))]), ((.ofNat 0), [(1, (.ofNat 1))]), ((.ofNat 0), [(2, (.ofNat 1))])]), (201, [((.ofNat 0), [(1, (.ofNat 1))]), ((.ofNat 0), [(3, (.ofNat 3))]), ((.ofNat 0), [(4, (.ofNat 1))])])], [((.ofNat 0), [(3, (.negSucc 0))]), ((.ofNat 1), [(0, (.negSucc 0)), (3, (.ofNat 1))])], [], [((.ofNat 0), [(4, (.negSucc 0))]), ((.negSucc 4), [(4, (.ofNat 1))])], [], 0, false)
theorem ru_slpm_ok : RuOk ru_slpm := by
  refine ⟨by decide, fun ρ hp hf => ?_⟩
  have h0 : w231 (ρ 0) (ρ 1) (ρ 2) := by
    have q : w231 (0 + (1 * ρ 0 + 0)) (0 + (1 * ρ 1 + 0)) (0 + (1 * ρ 2 + 0)) := hp _ List.mem_cons_self
    simpa only [Int.zero_add, Int.add_zero, Int.one_mul] using q
  have h1 : w201 (ρ 1) (3 * ρ 3) (ρ 4) := by
    have q : w201 (0 + (1 * ρ 1 + 0)) (0 + (3 * ρ 3 + 0)) (0 + (1 * ρ 4 + 0)) := hp _ (List.mem_cons_of_mem _ List.mem_cons_self)
    simpa only [Int.zero_add, Int.add_zero, Int.one_mul] using q
  have f0 : (0 + ((-1) * ρ 3 + 0)) ≤ 0 := hf _ List.mem_cons_self
  have f1 : (1 + ((-1) * ρ 0 + (1 * ρ 3 + 0))) ≤ 0 := hf _ (List.mem_cons_of_mem _ List.mem_cons_self)
  clear hp hf
  refine ⟨rfl, ρ, agr2.rf, ?_, ?_⟩
  · exact fun _ h => (by cases h)
  · refine List.forall_mem_cons.mpr ⟨?_, ?_⟩
    · show (0 + ((-1) * ρ 4 + 0)) ≤ 0
      try simp only [Int.zero_add, Int.add_zero, Int.one_mul]
      have q := w231_pm h0 h1 (by omega) (by omega)
      omega
    · refine List.forall_mem_cons.mpr ⟨?_, ?_⟩
      · show ((-5) + (1 * ρ 4 + 0)) ≤ 0
        try simp only [Int.zero_add, Int.add_zero, Int.one_mul]
        have q := w231_pm h0 h1 (by omega) (by omega)
        omega
      · exact fun _ h => (by cases h)
