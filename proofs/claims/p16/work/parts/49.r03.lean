/-! ===== rules, proved (written by wip/vse8/mkrule.py) ===== -/
noncomputable def ru_clr : RU := (4, [(223, [((.ofNat 0), [(0, (.ofNat 1))]), ((.ofNat 0), [(1, (.ofNat 1))]), ((.ofNat 0), [(2, (.ofNat 1))])]), (202, [((.ofNat 0), [(2, (.ofNat 1))]), ((.ofNat 0), [(1, (.ofNat 1))]), ((.ofNat 0), []), ((.ofNat 0), [(3, (.ofNat 1))])])], [], [(223, [((.ofNat 0), [(0, (.ofNat 1))]), ((.ofNat 1), [(1, (.ofNat 1))]), ((.ofNat 0), [(3, (.ofNat 1))])])], [], [0, 1], 0, false)
theorem ru_clr_ok : RuOk ru_clr := by
  refine ⟨by decide, fun ρ hp hf => ?_⟩
  have h0 : w223 (ρ 0) (ρ 1) (ρ 2) := by
    have q : w223 (0 + (1 * ρ 0 + 0)) (0 + (1 * ρ 1 + 0)) (0 + (1 * ρ 2 + 0)) := hp _ List.mem_cons_self
    simpa only [Int.zero_add, Int.add_zero, Int.one_mul] using q
  have h1 : w202 (ρ 2) (ρ 1) 0 (ρ 3) := by
    have q : w202 (0 + (1 * ρ 2 + 0)) (0 + (1 * ρ 1 + 0)) (0 + 0) (0 + (1 * ρ 3 + 0)) := hp _ (List.mem_cons_of_mem _ List.mem_cons_self)
    simpa only [Int.zero_add, Int.add_zero, Int.one_mul] using q
  clear hp hf
  refine ⟨rfl, ρ, agr2.rf, ?_, ?_⟩
  · refine List.forall_mem_cons.mpr ⟨?_, ?_⟩
    · show w223 (0 + (1 * ρ 0 + 0)) (1 + (1 * ρ 1 + 0)) (0 + (1 * ρ 3 + 0))
      try simp only [Int.zero_add, Int.add_zero, Int.one_mul]
      have q := w223_step h0 h1
      exact w223_cong (by omega) q
    · exact fun _ h => (by cases h)
  · exact fun _ h => (by cases h)
noncomputable def ru_clr4 : RU := (5, [(232, [((.ofNat 0), [(0, (.ofNat 1))]), ((.ofNat 0), [(1, (.ofNat 1))]), ((.ofNat 0), [(2, (.ofNat 1))]), ((.ofNat 0), [(3, (.ofNat 1))])]), (202, [((.ofNat 0), [(3, (.ofNat 1))]), ((.ofNat 0), [(1, (.ofNat 4)), (2, (.ofNat 1))]), ((.ofNat 0), []), ((.ofNat 0), [(4, (.ofNat 1))])])], [((.ofNat 0), [(1, (.negSucc 0))]), ((.ofNat 0), [(2, (.negSucc 0))])], [(232, [((.ofNat 0), [(0, (.ofNat 1))]), ((.ofNat 0), [(1, (.ofNat 1))]), ((.ofNat 1), [(2, (.ofNat 1))]), ((.ofNat 0), [(4, (.ofNat 1))])])], [], [0, 1], 0, false)
theorem ru_clr4_ok : RuOk ru_clr4 := by
  refine ⟨by decide, fun ρ hp hf => ?_⟩
  have h0 : w232 (ρ 0) (ρ 1) (ρ 2) (ρ 3) := by
    have q : w232 (0 + (1 * ρ 0 + 0)) (0 + (1 * ρ 1 + 0)) (0 + (1 * ρ 2 + 0)) (0 + (1 * ρ 3 + 0)) := hp _ List.mem_cons_self
    simpa only [Int.zero_add, Int.add_zero, Int.one_mul] using q
  have h1 : w202 (ρ 3) (4 * ρ 1 + ρ 2) 0 (ρ 4) := by
    have q : w202 (0 + (1 * ρ 3 + 0)) (0 + (4 * ρ 1 + (1 * ρ 2 + 0))) (0 + 0) (0 + (1 * ρ 4 + 0)) := hp _ (List.mem_cons_of_mem _ List.mem_cons_self)
    simpa only [Int.zero_add, Int.add_zero, Int.one_mul] using q
  have f0 : (0 + ((-1) * ρ 1 + 0)) ≤ 0 := hf _ List.mem_cons_self
  have f1 : (0 + ((-1) * ρ 2 + 0)) ≤ 0 := hf _ (List.mem_cons_of_mem _ List.mem_cons_self)
  clear hp hf
  refine ⟨rfl, ρ, agr2.rf, ?_, ?_⟩
  · refine List.forall_mem_cons.mpr ⟨?_, ?_⟩
    · show w232 (0 + (1 * ρ 0 + 0)) (0 + (1 * ρ 1 + 0)) (1 + (1 * ρ 2 + 0)) (0 + (1 * ρ 4 + 0))
      try simp only [Int.zero_add, Int.add_zero, Int.one_mul]
      obtain ⟨a, b, c⟩ := h0
      refine ⟨by omega, by omega, ?_⟩
      exact w223_cong (by omega) (w223_step (w223_cong (by omega) c) h1)
    · exact fun _ h => (by cases h)
  · exact fun _ h => (by cases h)
noncomputable def ru_clr4e : RU := (3, [(232, [((.ofNat 0), [(0, (.ofNat 1))]), ((.ofNat 0), [(1, (.ofNat 1))]), ((.ofNat 4), []), ((.ofNat 0), [(2, (.ofNat 1))])])], [], [(232, [((.ofNat 0), [(0, (.ofNat 1))]), ((.ofNat 1), [(1, (.ofNat 1))]), ((.ofNat 0), []), ((.ofNat 0), [(2, (.ofNat 1))])])], [], [0], 0, false)
theorem ru_clr4e_ok : RuOk ru_clr4e := by
  refine ⟨by decide, fun ρ hp hf => ?_⟩
  have h0 : w232 (ρ 0) (ρ 1) 4 (ρ 2) := by
    have q : w232 (0 + (1 * ρ 0 + 0)) (0 + (1 * ρ 1 + 0)) (4 + 0) (0 + (1 * ρ 2 + 0)) := hp _ List.mem_cons_self
    simpa only [Int.zero_add, Int.add_zero, Int.one_mul] using q
  clear hp hf
  refine ⟨rfl, ρ, agr2.rf, ?_, ?_⟩
  · refine List.forall_mem_cons.mpr ⟨?_, ?_⟩
    · show w232 (0 + (1 * ρ 0 + 0)) (1 + (1 * ρ 1 + 0)) (0 + 0) (0 + (1 * ρ 2 + 0))
      try simp only [Int.zero_add, Int.add_zero, Int.one_mul]
      obtain ⟨a, b, c⟩ := h0
      refine ⟨by omega, by omega, ?_⟩
      exact w223_cong (by omega) c
    · exact fun _ h => (by cases h)
  · exact fun _ h => (by cases h)
noncomputable def ru_sax : RU := (6, [(222, [((.ofNat 0), [(0, (.ofNat 1))]), ((.ofNat 0), [(1, (.ofNat 1))])]), (202, [((.ofNat 0), [(1, (.ofNat 1))]), ((.ofNat 0), [(2, (.ofNat 1))]), ((.ofNat 1), []), ((.ofNat 0), [(3, (.ofNat 1))])]), (202, [((.ofNat 0), [(0, (.ofNat 1))]), ((.ofNat 0), [(2, (.ofNat 1))]), ((.ofNat 0), [(4, (.ofNat 1))]), ((.ofNat 0), [(5, (.ofNat 1))])])], [((.ofNat 0), [(2, (.negSucc 0))]), ((.negSucc 30), [(2, (.ofNat 1))])], [(222, [((.ofNat 0), [(5, (.ofNat 1))]), ((.ofNat 0), [(3, (.ofNat 1))])])], [], [0], 0, false)
theorem ru_sax_ok : RuOk ru_sax := by
  refine ⟨by decide, fun ρ hp hf => ?_⟩
  have h0 : w222 (ρ 0) (ρ 1) := by
    have q : w222 (0 + (1 * ρ 0 + 0)) (0 + (1 * ρ 1 + 0)) := hp _ List.mem_cons_self
    simpa only [Int.zero_add, Int.add_zero, Int.one_mul] using q
  have h1 : w202 (ρ 1) (ρ 2) 1 (ρ 3) := by
    have q : w202 (0 + (1 * ρ 1 + 0)) (0 + (1 * ρ 2 + 0)) (1 + 0) (0 + (1 * ρ 3 + 0)) := hp _ (List.mem_cons_of_mem _ List.mem_cons_self)
    simpa only [Int.zero_add, Int.add_zero, Int.one_mul] using q
  have h2 : w202 (ρ 0) (ρ 2) (ρ 4) (ρ 5) := by
    have q : w202 (0 + (1 * ρ 0 + 0)) (0 + (1 * ρ 2 + 0)) (0 + (1 * ρ 4 + 0)) (0 + (1 * ρ 5 + 0)) := hp _ (List.mem_cons_of_mem _ (List.mem_cons_of_mem _ List.mem_cons_self))
    simpa only [Int.zero_add, Int.add_zero, Int.one_mul] using q
  have f0 : (0 + ((-1) * ρ 2 + 0)) ≤ 0 := hf _ List.mem_cons_self
  have f1 : ((-31) + (1 * ρ 2 + 0)) ≤ 0 := hf _ (List.mem_cons_of_mem _ List.mem_cons_self)
  clear hp hf
  refine ⟨rfl, ρ, agr2.rf, ?_, ?_⟩
  · refine List.forall_mem_cons.mpr ⟨?_, ?_⟩
    · show w222 (0 + (1 * ρ 5 + 0)) (0 + (1 * ρ 3 + 0))
      try simp only [Int.zero_add, Int.add_zero, Int.one_mul]
      exact w222_set h0 h1 h2 (by omega) (by omega)
    · exact fun _ h => (by cases h)
  · exact fun _ h => (by cases h)
noncomputable def ru_rso : RU := (4, [(224, [((.ofNat 0), [(0, (.ofNat 1))])]), (202, [((.ofNat 0), [(0, (.ofNat 1))]), ((.ofNat 0), [(1, (.ofNat 1))]), ((.ofNat 0), [(2, (.ofNat 1))]), ((.ofNat 0), [(3, (.ofNat 1))])])], [((.ofNat 0), [(1, (.negSucc 0))]), ((.negSucc 6), [(1, (.ofNat 1))])], [(224, [((.ofNat 0), [(3, (.ofNat 1))])])], [], [], 0, false)
theorem ru_rso_ok : RuOk ru_rso := by
  refine ⟨by decide, fun ρ hp hf => ?_⟩
  have h0 : w224 (ρ 0) := by
    have q : w224 (0 + (1 * ρ 0 + 0)) := hp _ List.mem_cons_self
    simpa only [Int.zero_add, Int.add_zero, Int.one_mul] using q
  have h1 : w202 (ρ 0) (ρ 1) (ρ 2) (ρ 3) := by
    have q : w202 (0 + (1 * ρ 0 + 0)) (0 + (1 * ρ 1 + 0)) (0 + (1 * ρ 2 + 0)) (0 + (1 * ρ 3 + 0)) := hp _ (List.mem_cons_of_mem _ List.mem_cons_self)
    simpa only [Int.zero_add, Int.add_zero, Int.one_mul] using q
  have f0 : (0 + ((-1) * ρ 1 + 0)) ≤ 0 := hf _ List.mem_cons_self
  have f1 : ((-7) + (1 * ρ 1 + 0)) ≤ 0 := hf _ (List.mem_cons_of_mem _ List.mem_cons_self)
  clear hp hf
  refine ⟨rfl, ρ, agr2.rf, ?_, ?_⟩
  · refine List.forall_mem_cons.mpr ⟨?_, ?_⟩
    · show w224 (0 + (1 * ρ 3 + 0))
      try simp only [Int.zero_add, Int.add_zero, Int.one_mul]
      exact w224_set h0 h1 (by omega) (by omega)
    · exact fun _ h => (by cases h)
  · exact fun _ h => (by cases h)
noncomputable def ru_updd : RU := (6, [(202, [((.ofNat 0), [(0, (.ofNat 1))]), ((.ofNat 0), [(1, (.ofNat 1))]), ((.ofNat 0), [(2, (.ofNat 1))]), ((.ofNat 0), [(3, (.ofNat 1))])]), (202, [((.ofNat 0), [(3, (.ofNat 1))]), ((.ofNat 0), [(1, (.ofNat 1))]), ((.ofNat 0), [(4, (.ofNat 1))]), ((.ofNat 0), [(5, (.ofNat 1))])])], [], [(202, [((.ofNat 0), [(0, (.ofNat 1))]), ((.ofNat 0), [(1, (.ofNat 1))]), ((.ofNat 0), [(4, (.ofNat 1))]), ((.ofNat 0), [(5, (.ofNat 1))])])], [], [], 0, false)
theorem ru_updd_ok : RuOk ru_updd := by
  refine ⟨by decide, fun ρ hp hf => ?_⟩
  have h0 : w202 (ρ 0) (ρ 1) (ρ 2) (ρ 3) := by
    have q : w202 (0 + (1 * ρ 0 + 0)) (0 + (1 * ρ 1 + 0)) (0 + (1 * ρ 2 + 0)) (0 + (1 * ρ 3 + 0)) := hp _ List.mem_cons_self
    simpa only [Int.zero_add, Int.add_zero, Int.one_mul] using q
  have h1 : w202 (ρ 3) (ρ 1) (ρ 4) (ρ 5) := by
    have q : w202 (0 + (1 * ρ 3 + 0)) (0 + (1 * ρ 1 + 0)) (0 + (1 * ρ 4 + 0)) (0 + (1 * ρ 5 + 0)) := hp _ (List.mem_cons_of_mem _ List.mem_cons_self)
    simpa only [Int.zero_add, Int.add_zero, Int.one_mul] using q
  clear hp hf
  refine ⟨rfl, ρ, agr2.rf, ?_, ?_⟩
  · refine List.forall_mem_cons.mpr ⟨?_, ?_⟩
    · show w202 (0 + (1 * ρ 0 + 0)) (0 + (1 * ρ 1 + 0)) (0 + (1 * ρ 4 + 0)) (0 + (1 * ρ 5 + 0))
      try simp only [Int.zero_add, Int.add_zero, Int.one_mul]
      unfold w202 at h0 h1 ⊢
      refine ⟨?_, h1.2.1, h0.2.2⟩
      rw [h1.1, h0.1, uX_uX' _ _ _ _ h0.2.2]
    · exact fun _ h => (by cases h)
  · exact fun _ h => (by cases h)
noncomputable def ru_eu : RU := (5, [(202, [((.ofNat 0), [(0, (.ofNat 1))]), ((.ofNat 0), [(1, (.ofNat 1))]), ((.ofNat 0), [(2, (.ofNat 1))]), ((.ofNat 0), [(3, (.ofNat 1))])]), (201, [((.ofNat 0), [(3, (.ofNat 1))]), ((.ofNat 0), [(1, (.ofNat 1))]), ((.ofNat 0), [(4, (.ofNat 1))])])], [((.ofNat 0), [(1, (.negSucc 0))])], [], [((.ofNat 0), [(2, (.ofNat 1)), (4, (.negSucc 0))]), ((.ofNat 0), [(2, (.negSucc 0)), (4, (.ofNat 1))])], [], 0, false)
theorem ru_eu_ok : RuOk ru_eu := by
  refine ⟨by decide, fun ρ hp hf => ?_⟩
  have h0 : w202 (ρ 0) (ρ 1) (ρ 2) (ρ 3) := by
    have q : w202 (0 + (1 * ρ 0 + 0)) (0 + (1 * ρ 1 + 0)) (0 + (1 * ρ 2 + 0)) (0 + (1 * ρ 3 + 0)) := hp _ List.mem_cons_self
    simpa only [Int.zero_add, Int.add_zero, Int.one_mul] using q
  have h1 : w201 (ρ 3) (ρ 1) (ρ 4) := by
    have q : w201 (0 + (1 * ρ 3 + 0)) (0 + (1 * ρ 1 + 0)) (0 + (1 * ρ 4 + 0)) := hp _ (List.mem_cons_of_mem _ List.mem_cons_self)
    simpa only [Int.zero_add, Int.add_zero, Int.one_mul] using q
  have f0 : (0 + ((-1) * ρ 1 + 0)) ≤ 0 := hf _ List.mem_cons_self
  clear hp hf
  refine ⟨rfl, ρ, agr2.rf, ?_, ?_⟩
  · exact fun _ h => (by cases h)
  · refine List.forall_mem_cons.mpr ⟨?_, ?_⟩
    · show (0 + (1 * ρ 2 + ((-1) * ρ 4 + 0))) ≤ 0
      try simp only [Int.zero_add, Int.add_zero, Int.one_mul]
      unfold w202 at h0
      unfold w201 at h1
      rw [h0.1, gX_uX _ _ _ (by omega)] at h1
      omega
    · refine List.forall_mem_cons.mpr ⟨?_, ?_⟩
      · show (0 + ((-1) * ρ 2 + (1 * ρ 4 + 0))) ≤ 0
        try simp only [Int.zero_add, Int.add_zero, Int.one_mul]
        unfold w202 at h0
        unfold w201 at h1
        rw [h0.1, gX_uX _ _ _ (by omega)] at h1
        omega
      · exact fun _ h => (by cases h)
noncomputable def ru_srt0 : RU := (0, [], [], [(231, [((.ofNat 0), []), ((.ofNat 0), []), ((.ofNat 0), [])])], [], [], 0, false)
theorem ru_srt0_ok : RuOk ru_srt0 := by
  refine ⟨by decide, fun ρ hp hf => ?_⟩
  clear hp hf
  refine ⟨rfl, ρ, agr2.rf, ?_, ?_⟩
  · refine List.forall_mem_cons.mpr ⟨?_, ?_⟩
    · show w231 (0 + 0) (0 + 0) (0 + 0)
      try simp only [Int.zero_add, Int.add_zero, Int.one_mul]
      refine ⟨0, rfl, by omega, ?_, ?_, ?_⟩ <;> simp [slL, isoS]
    · exact fun _ h => (by cases h)
  · exact fun _ h => (by cases h)
