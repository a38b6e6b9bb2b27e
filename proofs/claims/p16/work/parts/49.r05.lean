/-! ===== rules, proved (written by wip/vse8/mkrule.py) ===== -/
noncomputable def ru_rln0 : RU := (11, [(302, [((.ofNat 0), [(0, (.ofNat 1))]), ((.ofNat 0), [(1, (.ofNat 1))]), ((.ofNat 0), [(2, (.ofNat 1))]), ((.ofNat 0), [(3, (.ofNat 1))]), ((.ofNat 0), [(4, (.ofNat 1))]), ((.ofNat 0), [(5, (.ofNat 1))]), ((.ofNat 0), [(6, (.ofNat 1))]), ((.ofNat 0), [(7, (.ofNat 1))]), ((.ofNat 0), [(8, (.ofNat 1))]), ((.ofNat 0), [(9, (.ofNat 1))])]), (231, [((.ofNat 0), [(4, (.ofNat 1))]), ((.ofNat 0), [(10, (.ofNat 1))]), ((.ofNat 0), [(3, (.ofNat 1))])])], [], [(227, [((.ofNat 0), [(0, (.ofNat 1))]), ((.ofNat 0), [(1, (.ofNat 1))]), ((.ofNat 0), [(2, (.ofNat 1))]), ((.ofNat 0), [(3, (.ofNat 1))]), ((.ofNat 0), [(4, (.ofNat 1))]), ((.ofNat 0), [(5, (.ofNat 1))]), ((.ofNat 0), [(6, (.ofNat 1))]), ((.ofNat 0), [(7, (.ofNat 1))]), ((.ofNat 0), [(8, (.ofNat 1))]), ((.ofNat 0), [(9, (.ofNat 1))]), ((.ofNat 0), []), ((.ofNat 0), [(9, (.ofNat 1))]), ((.ofNat 0), []), ((.ofNat 0), []), ((.ofNat 0), [])])], [], [], 0, false)
theorem ru_rln0_ok : RuOk ru_rln0 := by
  refine ⟨by decide, fun ρ hp hf => ?_⟩
  have h1 : w231 (ρ 4) (ρ 10) (ρ 3) := by
    have q : w231 (0 + (1 * ρ 4 + 0)) (0 + (1 * ρ 10 + 0)) (0 + (1 * ρ 3 + 0)) := hp _ (List.mem_cons_of_mem _ List.mem_cons_self)
    simpa only [Int.zero_add, Int.add_zero, Int.one_mul] using q
  clear hp hf
  refine ⟨rfl, ρ, agr2.rf, ?_, ?_⟩
  · refine List.forall_mem_cons.mpr ⟨?_, ?_⟩
    · show w227 (0 + (1 * ρ 0 + 0)) (0 + (1 * ρ 1 + 0)) (0 + (1 * ρ 2 + 0)) (0 + (1 * ρ 3 + 0)) (0 + (1 * ρ 4 + 0)) (0 + (1 * ρ 5 + 0)) (0 + (1 * ρ 6 + 0)) (0 + (1 * ρ 7 + 0)) (0 + (1 * ρ 8 + 0)) (0 + (1 * ρ 9 + 0)) (0 + 0) (0 + (1 * ρ 9 + 0)) (0 + 0) (0 + 0) (0 + 0)
      try simp only [Int.zero_add, Int.add_zero, Int.one_mul]
      obtain ⟨m, a, b, _⟩ := h1
      exact ⟨m, 0, a, b, rfl, rfl⟩
    · exact fun _ h => (by cases h)
  · exact fun _ h => (by cases h)
noncomputable def ru_rsl1 : RU := (24, [(226, [((.ofNat 0), [(0, (.ofNat 1))]), ((.ofNat 0), [(1, (.ofNat 1))]), ((.ofNat 0), [(2, (.ofNat 1))]), ((.ofNat 0), [(3, (.ofNat 1))]), ((.ofNat 0), [(4, (.ofNat 1))]), ((.ofNat 0), [(5, (.ofNat 1))]), ((.ofNat 0), [(6, (.ofNat 1))]), ((.ofNat 0), [(7, (.ofNat 1))]), ((.ofNat 0), [(8, (.ofNat 1))]), ((.ofNat 0), [(9, (.ofNat 1))]), ((.ofNat 0), [(10, (.ofNat 1))]), ((.ofNat 0), [(11, (.ofNat 1))]), ((.ofNat 0), [(12, (.ofNat 1))]), ((.ofNat 0), [(13, (.ofNat 1))]), ((.ofNat 0), [(14, (.ofNat 1))]), ((.ofNat 0), [(15, (.ofNat 1))]), ((.ofNat 0), [(16, (.ofNat 1))]), ((.ofNat 0), [(17, (.ofNat 1))]), ((.ofNat 0), [(18, (.ofNat 1))])]), (201, [((.ofNat 0), [(3, (.ofNat 1))]), ((.ofNat 0), [(14, (.ofNat 3))]), ((.ofNat 0), [(19, (.ofNat 1))])]), (201, [((.ofNat 0), [(3, (.ofNat 1))]), ((.ofNat 2), [(14, (.ofNat 3))]), ((.ofNat 0), [(20, (.ofNat 1))])]), (215, [((.ofNat 0), [(0, (.ofNat 1))]), ((.ofNat 0), [(1, (.ofNat 1))]), ((.ofNat 0), [(2, (.ofNat 1))]), ((.ofNat 0), [(19, (.ofNat 1))]), ((.ofNat 0), [(5, (.negSucc 0)), (20, (.ofNat 1))]), ((.ofNat 0), [(6, (.ofNat 1))]), ((.ofNat 0), [(7, (.ofNat 1))]), ((.ofNat 0), [(8, (.ofNat 1))]), ((.ofNat 0), [(15, (.ofNat 1))]), ((.ofNat 0), [(16, (.ofNat 1))]), ((.ofNat 0), [(17, (.ofNat 1))]), ((.ofNat 0), [(21, (.ofNat 1))]), ((.ofNat 0), [(22, (.ofNat 1))]), ((.ofNat 0), [(23, (.ofNat 1))]), ((.ofNat 1), [])])], [], [(226, [((.ofNat 0), [(0, (.ofNat 1))]), ((.ofNat 0), [(1, (.ofNat 1))]), ((.ofNat 0), [(2, (.ofNat 1))]), ((.ofNat 0), [(3, (.ofNat 1))]), ((.ofNat 0), [(4, (.ofNat 1))]), ((.ofNat 0), [(5, (.ofNat 1))]), ((.ofNat 0), [(6, (.ofNat 1))]), ((.ofNat 0), [(7, (.ofNat 1))]), ((.ofNat 0), [(8, (.ofNat 1))]), ((.ofNat 0), [(9, (.ofNat 1))]), ((.ofNat 0), [(10, (.ofNat 1))]), ((.ofNat 0), [(11, (.ofNat 1))]), ((.ofNat 0), [(12, (.ofNat 1))]), ((.ofNat 0), [(13, (.ofNat 1))]), ((.ofNat 1), [(14, (.ofNat 1))]), ((.ofNat 0), [(21, (.ofNat 1))]), ((.ofNat 0), [(22, (.ofNat 1))]), ((.ofNat 0), [(23, (.ofNat 1))]), ((.ofNat 0), [(18, (.ofNat 1))])])], [], [0, 3], 0, false)
theorem ru_rsl1_ok : RuOk ru_rsl1 := by
  refine ⟨by decide, fun ρ hp hf => ?_⟩
  have h0 : w226 (ρ 0) (ρ 1) (ρ 2) (ρ 3) (ρ 4) (ρ 5) (ρ 6) (ρ 7) (ρ 8) (ρ 9) (ρ 10) (ρ 11) (ρ 12) (ρ 13) (ρ 14) (ρ 15) (ρ 16) (ρ 17) (ρ 18) := by
    have q : w226 (0 + (1 * ρ 0 + 0)) (0 + (1 * ρ 1 + 0)) (0 + (1 * ρ 2 + 0)) (0 + (1 * ρ 3 + 0)) (0 + (1 * ρ 4 + 0)) (0 + (1 * ρ 5 + 0)) (0 + (1 * ρ 6 + 0)) (0 + (1 * ρ 7 + 0)) (0 + (1 * ρ 8 + 0)) (0 + (1 * ρ 9 + 0)) (0 + (1 * ρ 10 + 0)) (0 + (1 * ρ 11 + 0)) (0 + (1 * ρ 12 + 0)) (0 + (1 * ρ 13 + 0)) (0 + (1 * ρ 14 + 0)) (0 + (1 * ρ 15 + 0)) (0 + (1 * ρ 16 + 0)) (0 + (1 * ρ 17 + 0)) (0 + (1 * ρ 18 + 0)) := hp _ List.mem_cons_self
    simpa only [Int.zero_add, Int.add_zero, Int.one_mul] using q
  have h1 : w201 (ρ 3) (3 * ρ 14) (ρ 19) := by
    have q : w201 (0 + (1 * ρ 3 + 0)) (0 + (3 * ρ 14 + 0)) (0 + (1 * ρ 19 + 0)) := hp _ (List.mem_cons_of_mem _ List.mem_cons_self)
    simpa only [Int.zero_add, Int.add_zero, Int.one_mul] using q
  have h2 : w201 (ρ 3) (2 + 3 * ρ 14) (ρ 20) := by
    have q : w201 (0 + (1 * ρ 3 + 0)) (2 + (3 * ρ 14 + 0)) (0 + (1 * ρ 20 + 0)) := hp _ (List.mem_cons_of_mem _ (List.mem_cons_of_mem _ List.mem_cons_self))
    simpa only [Int.zero_add, Int.add_zero, Int.one_mul] using q
  have h3 : w215 (ρ 0) (ρ 1) (ρ 2) (ρ 19) ((-1) * ρ 5 + ρ 20) (ρ 6) (ρ 7) (ρ 8) (ρ 15) (ρ 16) (ρ 17) (ρ 21) (ρ 22) (ρ 23) 1 := by
    have q : w215 (0 + (1 * ρ 0 + 0)) (0 + (1 * ρ 1 + 0)) (0 + (1 * ρ 2 + 0)) (0 + (1 * ρ 19 + 0)) (0 + ((-1) * ρ 5 + (1 * ρ 20 + 0))) (0 + (1 * ρ 6 + 0)) (0 + (1 * ρ 7 + 0)) (0 + (1 * ρ 8 + 0)) (0 + (1 * ρ 15 + 0)) (0 + (1 * ρ 16 + 0)) (0 + (1 * ρ 17 + 0)) (0 + (1 * ρ 21 + 0)) (0 + (1 * ρ 22 + 0)) (0 + (1 * ρ 23 + 0)) (1 + 0) := hp _ (List.mem_cons_of_mem _ (List.mem_cons_of_mem _ (List.mem_cons_of_mem _ List.mem_cons_self)))
    simpa only [Int.zero_add, Int.add_zero, Int.one_mul] using q
  clear hp hf
  refine ⟨rfl, ρ, agr2.rf, ?_, ?_⟩
  · refine List.forall_mem_cons.mpr ⟨?_, ?_⟩
    · show w226 (0 + (1 * ρ 0 + 0)) (0 + (1 * ρ 1 + 0)) (0 + (1 * ρ 2 + 0)) (0 + (1 * ρ 3 + 0)) (0 + (1 * ρ 4 + 0)) (0 + (1 * ρ 5 + 0)) (0 + (1 * ρ 6 + 0)) (0 + (1 * ρ 7 + 0)) (0 + (1 * ρ 8 + 0)) (0 + (1 * ρ 9 + 0)) (0 + (1 * ρ 10 + 0)) (0 + (1 * ρ 11 + 0)) (0 + (1 * ρ 12 + 0)) (0 + (1 * ρ 13 + 0)) (1 + (1 * ρ 14 + 0)) (0 + (1 * ρ 21 + 0)) (0 + (1 * ρ 22 + 0)) (0 + (1 * ρ 23 + 0)) (0 + (1 * ρ 18 + 0))
      try simp only [Int.zero_add, Int.add_zero, Int.one_mul]
      exact w226_ok h0 h1 h2 (by omega) h3
    · exact fun _ h => (by cases h)
  · exact fun _ h => (by cases h)
noncomputable def ru_rsl2 : RU := (24, [(226, [((.ofNat 0), [(0, (.ofNat 1))]), ((.ofNat 0), [(1, (.ofNat 1))]), ((.ofNat 0), [(2, (.ofNat 1))]), ((.ofNat 0), [(3, (.ofNat 1))]), ((.ofNat 0), [(4, (.ofNat 1))]), ((.ofNat 0), [(5, (.ofNat 1))]), ((.ofNat 0), [(6, (.ofNat 1))]), ((.ofNat 0), [(7, (.ofNat 1))]), ((.ofNat 0), [(8, (.ofNat 1))]), ((.ofNat 0), [(9, (.ofNat 1))]), ((.ofNat 0), [(10, (.ofNat 1))]), ((.ofNat 0), [(11, (.ofNat 1))]), ((.ofNat 0), [(12, (.ofNat 1))]), ((.ofNat 0), [(13, (.ofNat 1))]), ((.ofNat 0), [(14, (.ofNat 1))]), ((.ofNat 0), [(15, (.ofNat 1))]), ((.ofNat 0), [(16, (.ofNat 1))]), ((.ofNat 0), [(17, (.ofNat 1))]), ((.ofNat 0), [(18, (.ofNat 1))])]), (201, [((.ofNat 0), [(3, (.ofNat 1))]), ((.ofNat 0), [(14, (.ofNat 3))]), ((.ofNat 0), [(19, (.ofNat 1))])]), (201, [((.ofNat 0), [(3, (.ofNat 1))]), ((.ofNat 2), [(14, (.ofNat 3))]), ((.ofNat 0), [(20, (.ofNat 1))])]), (215, [((.ofNat 0), [(0, (.ofNat 1))]), ((.ofNat 0), [(1, (.ofNat 1))]), ((.ofNat 0), [(2, (.ofNat 1))]), ((.ofNat 0), [(19, (.ofNat 1))]), ((.ofNat 0), [(5, (.negSucc 0)), (20, (.ofNat 1))]), ((.ofNat 0), [(6, (.ofNat 1))]), ((.ofNat 0), [(7, (.ofNat 1))]), ((.ofNat 0), [(8, (.ofNat 1))]), ((.ofNat 0), [(15, (.ofNat 1))]), ((.ofNat 0), [(16, (.ofNat 1))]), ((.ofNat 0), [(17, (.ofNat 1))]), ((.ofNat 0), [(21, (.ofNat 1))]), ((.ofNat 0), [(22, (.ofNat 1))]), ((.ofNat 0), [(23, (.ofNat 1))]), ((.ofNat 0), [])])], [((.ofNat 0), [(18, (.negSucc 0))]), ((.negSucc 999), [(18, (.ofNat 1))])], [(226, [((.ofNat 0), [(0, (.ofNat 1))]), ((.ofNat 0), [(1, (.ofNat 1))]), ((.ofNat 0), [(2, (.ofNat 1))]), ((.ofNat 0), [(3, (.ofNat 1))]), ((.ofNat 0), [(4, (.ofNat 1))]), ((.ofNat 0), [(5, (.ofNat 1))]), ((.ofNat 0), [(6, (.ofNat 1))]), ((.ofNat 0), [(7, (.ofNat 1))]), ((.ofNat 0), [(8, (.ofNat 1))]), ((.ofNat 0), [(9, (.ofNat 1))]), ((.ofNat 0), [(10, (.ofNat 1))]), ((.ofNat 0), [(11, (.ofNat 1))]), ((.ofNat 0), [(12, (.ofNat 1))]), ((.ofNat 0), [(13, (.ofNat 1))]), ((.ofNat 1), [(14, (.ofNat 1))]), ((.ofNat 0), [(21, (.ofNat 1))]), ((.ofNat 0), [(22, (.ofNat 1))]), ((.ofNat 0), [(23, (.ofNat 1))]), ((.ofNat 1), [(18, (.ofNat 1))])])], [], [0, 3], 0, false)
theorem ru_rsl2_ok : RuOk ru_rsl2 := by
  refine ⟨by decide, fun ρ hp hf => ?_⟩
  have h0 : w226 (ρ 0) (ρ 1) (ρ 2) (ρ 3) (ρ 4) (ρ 5) (ρ 6) (ρ 7) (ρ 8) (ρ 9) (ρ 10) (ρ 11) (ρ 12) (ρ 13) (ρ 14) (ρ 15) (ρ 16) (ρ 17) (ρ 18) := by
    have q : w226 (0 + (1 * ρ 0 + 0)) (0 + (1 * ρ 1 + 0)) (0 + (1 * ρ 2 + 0)) (0 + (1 * ρ 3 + 0)) (0 + (1 * ρ 4 + 0)) (0 + (1 * ρ 5 + 0)) (0 + (1 * ρ 6 + 0)) (0 + (1 * ρ 7 + 0)) (0 + (1 * ρ 8 + 0)) (0 + (1 * ρ 9 + 0)) (0 + (1 * ρ 10 + 0)) (0 + (1 * ρ 11 + 0)) (0 + (1 * ρ 12 + 0)) (0 + (1 * ρ 13 + 0)) (0 + (1 * ρ 14 + 0)) (0 + (1 * ρ 15 + 0)) (0 + (1 * ρ 16 + 0)) (0 + (1 * ρ 17 + 0)) (0 + (1 * ρ 18 + 0)) := hp _ List.mem_cons_self
    simpa only [Int.zero_add, Int.add_zero, Int.one_mul] using q
  have h1 : w201 (ρ 3) (3 * ρ 14) (ρ 19) := by
    have q : w201 (0 + (1 * ρ 3 + 0)) (0 + (3 * ρ 14 + 0)) (0 + (1 * ρ 19 + 0)) := hp _ (List.mem_cons_of_mem _ List.mem_cons_self)
    simpa only [Int.zero_add, Int.add_zero, Int.one_mul] using q
  have h2 : w201 (ρ 3) (2 + 3 * ρ 14) (ρ 20) := by
    have q : w201 (0 + (1 * ρ 3 + 0)) (2 + (3 * ρ 14 + 0)) (0 + (1 * ρ 20 + 0)) := hp _ (List.mem_cons_of_mem _ (List.mem_cons_of_mem _ List.mem_cons_self))
    simpa only [Int.zero_add, Int.add_zero, Int.one_mul] using q
  have h3 : w215 (ρ 0) (ρ 1) (ρ 2) (ρ 19) ((-1) * ρ 5 + ρ 20) (ρ 6) (ρ 7) (ρ 8) (ρ 15) (ρ 16) (ρ 17) (ρ 21) (ρ 22) (ρ 23) 0 := by
    have q : w215 (0 + (1 * ρ 0 + 0)) (0 + (1 * ρ 1 + 0)) (0 + (1 * ρ 2 + 0)) (0 + (1 * ρ 19 + 0)) (0 + ((-1) * ρ 5 + (1 * ρ 20 + 0))) (0 + (1 * ρ 6 + 0)) (0 + (1 * ρ 7 + 0)) (0 + (1 * ρ 8 + 0)) (0 + (1 * ρ 15 + 0)) (0 + (1 * ρ 16 + 0)) (0 + (1 * ρ 17 + 0)) (0 + (1 * ρ 21 + 0)) (0 + (1 * ρ 22 + 0)) (0 + (1 * ρ 23 + 0)) (0 + 0) := hp _ (List.mem_cons_of_mem _ (List.mem_cons_of_mem _ (List.mem_cons_of_mem _ List.mem_cons_self)))
    simpa only [Int.zero_add, Int.add_zero, Int.one_mul] using q
  have f0 : (0 + ((-1) * ρ 18 + 0)) ≤ 0 := hf _ List.mem_cons_self
  have f1 : ((-1000) + (1 * ρ 18 + 0)) ≤ 0 := hf _ (List.mem_cons_of_mem _ List.mem_cons_self)
  clear hp hf
  refine ⟨rfl, ρ, agr2.rf, ?_, ?_⟩
  · refine List.forall_mem_cons.mpr ⟨?_, ?_⟩
    · show w226 (0 + (1 * ρ 0 + 0)) (0 + (1 * ρ 1 + 0)) (0 + (1 * ρ 2 + 0)) (0 + (1 * ρ 3 + 0)) (0 + (1 * ρ 4 + 0)) (0 + (1 * ρ 5 + 0)) (0 + (1 * ρ 6 + 0)) (0 + (1 * ρ 7 + 0)) (0 + (1 * ρ 8 + 0)) (0 + (1 * ρ 9 + 0)) (0 + (1 * ρ 10 + 0)) (0 + (1 * ρ 11 + 0)) (0 + (1 * ρ 12 + 0)) (0 + (1 * ρ 13 + 0)) (1 + (1 * ρ 14 + 0)) (0 + (1 * ρ 21 + 0)) (0 + (1 * ρ 22 + 0)) (0 + (1 * ρ 23 + 0)) (1 + (1 * ρ 18 + 0))
      try simp only [Int.zero_add, Int.add_zero, Int.one_mul]
      exact w226_no h0 h1 h2 (by omega) h3
    · exact fun _ h => (by cases h)
  · exact fun _ h => (by cases h)
noncomputable def ru_rlnA : RU := (20, [(227, [((.ofNat 0), [(0, (.ofNat 1))]), ((.ofNat 0), [(1, (.ofNat 1))]), ((.ofNat 0), [(2, (.ofNat 1))]), ((.ofNat 0), [(3, (.ofNat 1))]), ((.ofNat 0), [(4, (.ofNat 1))]), ((.ofNat 0), [(5, (.ofNat 1))]), ((.ofNat 0), [(6, (.ofNat 1))]), ((.ofNat 0), [(7, (.ofNat 1))]), ((.ofNat 0), [(8, (.ofNat 1))]), ((.ofNat 0), [(9, (.ofNat 1))]), ((.ofNat 0), [(10, (.ofNat 1))]), ((.ofNat 0), [(11, (.ofNat 1))]), ((.ofNat 0), [(12, (.ofNat 1))]), ((.ofNat 0), [(13, (.ofNat 1))]), ((.ofNat 0), [(14, (.ofNat 1))])]), (226, [((.ofNat 0), [(0, (.ofNat 1))]), ((.ofNat 0), [(1, (.ofNat 1))]), ((.ofNat 0), [(2, (.ofNat 1))]), ((.ofNat 0), [(3, (.ofNat 1))]), ((.ofNat 0), [(4, (.ofNat 1))]), ((.ofNat 0), [(15, (.ofNat 1))]), ((.ofNat 0), [(10, (.ofNat 1))]), ((.ofNat 0), [(7, (.ofNat 1))]), ((.ofNat 0), [(8, (.ofNat 1))]), ((.ofNat 0), [(6, (.ofNat 1))]), ((.ofNat 0), [(11, (.ofNat 1))]), ((.ofNat 0), [(12, (.ofNat 1))]), ((.ofNat 0), [(13, (.ofNat 1))]), ((.ofNat 0), [(14, (.ofNat 1))]), ((.ofNat 0), [(4, (.ofNat 1))]), ((.ofNat 0), [(16, (.ofNat 1))]), ((.ofNat 0), [(17, (.ofNat 1))]), ((.ofNat 0), [(18, (.ofNat 1))]), ((.ofNat 0), [(19, (.ofNat 1))])])], [], [(227, [((.ofNat 0), [(0, (.ofNat 1))]), ((.ofNat 0), [(1, (.ofNat 1))]), ((.ofNat 0), [(2, (.ofNat 1))]), ((.ofNat 0), [(3, (.ofNat 1))]), ((.ofNat 0), [(4, (.ofNat 1))]), ((.ofNat 0), [(5, (.ofNat 1))]), ((.ofNat 0), [(6, (.ofNat 1))]), ((.ofNat 0), [(7, (.ofNat 1))]), ((.ofNat 0), [(8, (.ofNat 1))]), ((.ofNat 0), [(9, (.ofNat 1))]), ((.ofNat 1), [(10, (.ofNat 1))]), ((.ofNat 0), [(16, (.ofNat 1))]), ((.ofNat 0), [(17, (.ofNat 1))]), ((.ofNat 0), [(18, (.ofNat 1))]), ((.ofNat 0), [(19, (.ofNat 1))])])], [], [0, 1], 0, false)
theorem ru_rlnA_ok : RuOk ru_rlnA := by
  refine ⟨by decide, fun ρ hp hf => ?_⟩
  have h0 : w227 (ρ 0) (ρ 1) (ρ 2) (ρ 3) (ρ 4) (ρ 5) (ρ 6) (ρ 7) (ρ 8) (ρ 9) (ρ 10) (ρ 11) (ρ 12) (ρ 13) (ρ 14) := by
    have q : w227 (0 + (1 * ρ 0 + 0)) (0 + (1 * ρ 1 + 0)) (0 + (1 * ρ 2 + 0)) (0 + (1 * ρ 3 + 0)) (0 + (1 * ρ 4 + 0)) (0 + (1 * ρ 5 + 0)) (0 + (1 * ρ 6 + 0)) (0 + (1 * ρ 7 + 0)) (0 + (1 * ρ 8 + 0)) (0 + (1 * ρ 9 + 0)) (0 + (1 * ρ 10 + 0)) (0 + (1 * ρ 11 + 0)) (0 + (1 * ρ 12 + 0)) (0 + (1 * ρ 13 + 0)) (0 + (1 * ρ 14 + 0)) := hp _ List.mem_cons_self
    simpa only [Int.zero_add, Int.add_zero, Int.one_mul] using q
  have h1 : w226 (ρ 0) (ρ 1) (ρ 2) (ρ 3) (ρ 4) (ρ 15) (ρ 10) (ρ 7) (ρ 8) (ρ 6) (ρ 11) (ρ 12) (ρ 13) (ρ 14) (ρ 4) (ρ 16) (ρ 17) (ρ 18) (ρ 19) := by
    have q : w226 (0 + (1 * ρ 0 + 0)) (0 + (1 * ρ 1 + 0)) (0 + (1 * ρ 2 + 0)) (0 + (1 * ρ 3 + 0)) (0 + (1 * ρ 4 + 0)) (0 + (1 * ρ 15 + 0)) (0 + (1 * ρ 10 + 0)) (0 + (1 * ρ 7 + 0)) (0 + (1 * ρ 8 + 0)) (0 + (1 * ρ 6 + 0)) (0 + (1 * ρ 11 + 0)) (0 + (1 * ρ 12 + 0)) (0 + (1 * ρ 13 + 0)) (0 + (1 * ρ 14 + 0)) (0 + (1 * ρ 4 + 0)) (0 + (1 * ρ 16 + 0)) (0 + (1 * ρ 17 + 0)) (0 + (1 * ρ 18 + 0)) (0 + (1 * ρ 19 + 0)) := hp _ (List.mem_cons_of_mem _ List.mem_cons_self)
    simpa only [Int.zero_add, Int.add_zero, Int.one_mul] using q
  clear hp hf
  refine ⟨rfl, ρ, agr2.rf, ?_, ?_⟩
  · refine List.forall_mem_cons.mpr ⟨?_, ?_⟩
    · show w227 (0 + (1 * ρ 0 + 0)) (0 + (1 * ρ 1 + 0)) (0 + (1 * ρ 2 + 0)) (0 + (1 * ρ 3 + 0)) (0 + (1 * ρ 4 + 0)) (0 + (1 * ρ 5 + 0)) (0 + (1 * ρ 6 + 0)) (0 + (1 * ρ 7 + 0)) (0 + (1 * ρ 8 + 0)) (0 + (1 * ρ 9 + 0)) (1 + (1 * ρ 10 + 0)) (0 + (1 * ρ 16 + 0)) (0 + (1 * ρ 17 + 0)) (0 + (1 * ρ 18 + 0)) (0 + (1 * ρ 19 + 0))
      try simp only [Int.zero_add, Int.add_zero, Int.one_mul]
      obtain ⟨m, L, a, b, c, d⟩ := h0
      obtain ⟨e, g, k, p, q, I, hI, h⟩ := h1
      refine ⟨m, L + 1, a, b, by omega, ?_⟩
      have im : I = m := by omega
      subst im
      unfold rlnN
      rw [← c, if_pos g, d, ← e]
      exact h
    · exact fun _ h => (by cases h)
  · exact fun _ h => (by cases h)
noncomputable def ru_rlnB : RU := (16, [(227, [((.ofNat 0), [(0, (.ofNat 1))]), ((.ofNat 0), [(1, (.ofNat 1))]), ((.ofNat 0), [(2, (.ofNat 1))]), ((.ofNat 0), [(3, (.ofNat 1))]), ((.ofNat 0), [(4, (.ofNat 1))]), ((.ofNat 0), [(5, (.ofNat 1))]), ((.ofNat 0), [(6, (.ofNat 1))]), ((.ofNat 0), [(7, (.ofNat 1))]), ((.ofNat 0), [(8, (.ofNat 1))]), ((.ofNat 0), [(9, (.ofNat 1))]), ((.ofNat 0), [(10, (.ofNat 1))]), ((.ofNat 0), [(11, (.ofNat 1))]), ((.ofNat 0), [(12, (.ofNat 1))]), ((.ofNat 0), [(13, (.ofNat 1))]), ((.ofNat 0), [(14, (.ofNat 1))])]), (201, [((.ofNat 0), [(6, (.ofNat 1))]), ((.ofNat 0), [(10, (.ofNat 1))]), ((.ofNat 0), [(15, (.ofNat 1))])])], [((.ofNat 0), [(15, (.ofNat 1))])], [(227, [((.ofNat 0), [(0, (.ofNat 1))]), ((.ofNat 0), [(1, (.ofNat 1))]), ((.ofNat 0), [(2, (.ofNat 1))]), ((.ofNat 0), [(3, (.ofNat 1))]), ((.ofNat 0), [(4, (.ofNat 1))]), ((.ofNat 0), [(5, (.ofNat 1))]), ((.ofNat 0), [(6, (.ofNat 1))]), ((.ofNat 0), [(7, (.ofNat 1))]), ((.ofNat 0), [(8, (.ofNat 1))]), ((.ofNat 0), [(9, (.ofNat 1))]), ((.ofNat 1), [(10, (.ofNat 1))]), ((.ofNat 0), [(11, (.ofNat 1))]), ((.ofNat 0), [(12, (.ofNat 1))]), ((.ofNat 0), [(13, (.ofNat 1))]), ((.ofNat 0), [(14, (.ofNat 1))])])], [], [0], 0, false)
theorem ru_rlnB_ok : RuOk ru_rlnB := by
  refine ⟨by decide, fun ρ hp hf => ?_⟩
  have h0 : w227 (ρ 0) (ρ 1) (ρ 2) (ρ 3) (ρ 4) (ρ 5) (ρ 6) (ρ 7) (ρ 8) (ρ 9) (ρ 10) (ρ 11) (ρ 12) (ρ 13) (ρ 14) := by
    have q : w227 (0 + (1 * ρ 0 + 0)) (0 + (1 * ρ 1 + 0)) (0 + (1 * ρ 2 + 0)) (0 + (1 * ρ 3 + 0)) (0 + (1 * ρ 4 + 0)) (0 + (1 * ρ 5 + 0)) (0 + (1 * ρ 6 + 0)) (0 + (1 * ρ 7 + 0)) (0 + (1 * ρ 8 + 0)) (0 + (1 * ρ 9 + 0)) (0 + (1 * ρ 10 + 0)) (0 + (1 * ρ 11 + 0)) (0 + (1 * ρ 12 + 0)) (0 + (1 * ρ 13 + 0)) (0 + (1 * ρ 14 + 0)) := hp _ List.mem_cons_self
    simpa only [Int.zero_add, Int.add_zero, Int.one_mul] using q
  have h1 : w201 (ρ 6) (ρ 10) (ρ 15) := by
    have q : w201 (0 + (1 * ρ 6 + 0)) (0 + (1 * ρ 10 + 0)) (0 + (1 * ρ 15 + 0)) := hp _ (List.mem_cons_of_mem _ List.mem_cons_self)
    simpa only [Int.zero_add, Int.add_zero, Int.one_mul] using q
  have f0 : (0 + (1 * ρ 15 + 0)) ≤ 0 := hf _ List.mem_cons_self
  clear hp hf
  refine ⟨rfl, ρ, agr2.rf, ?_, ?_⟩
  · refine List.forall_mem_cons.mpr ⟨?_, ?_⟩
    · show w227 (0 + (1 * ρ 0 + 0)) (0 + (1 * ρ 1 + 0)) (0 + (1 * ρ 2 + 0)) (0 + (1 * ρ 3 + 0)) (0 + (1 * ρ 4 + 0)) (0 + (1 * ρ 5 + 0)) (0 + (1 * ρ 6 + 0)) (0 + (1 * ρ 7 + 0)) (0 + (1 * ρ 8 + 0)) (0 + (1 * ρ 9 + 0)) (1 + (1 * ρ 10 + 0)) (0 + (1 * ρ 11 + 0)) (0 + (1 * ρ 12 + 0)) (0 + (1 * ρ 13 + 0)) (0 + (1 * ρ 14 + 0))
      try simp only [Int.zero_add, Int.add_zero, Int.one_mul]
      obtain ⟨m, L, a, b, c, d⟩ := h0
      refine ⟨m, L + 1, a, b, by omega, ?_⟩
      unfold w201 at h1
      unfold rlnN
      rw [← c, if_neg (by omega)]
      exact d
    · exact fun _ h => (by cases h)
  · exact fun _ h => (by cases h)
noncomputable def ru_run : RU := (14, [(302, [((.ofNat 0), [(0, (.ofNat 1))]), ((.ofNat 0), [(1, (.ofNat 1))]), ((.ofNat 0), [(2, (.ofNat 1))]), ((.ofNat 0), [(3, (.ofNat 1))]), ((.ofNat 0), [(4, (.ofNat 1))]), ((.ofNat 0), [(5, (.ofNat 1))]), ((.ofNat 0), [(6, (.ofNat 1))]), ((.ofNat 0), [(7, (.ofNat 1))]), ((.ofNat 0), [(8, (.ofNat 1))]), ((.ofNat 0), [(9, (.ofNat 1))])]), (227, [((.ofNat 0), [(0, (.ofNat 1))]), ((.ofNat 0), [(1, (.ofNat 1))]), ((.ofNat 0), [(2, (.ofNat 1))]), ((.ofNat 0), [(3, (.ofNat 1))]), ((.ofNat 0), [(4, (.ofNat 1))]), ((.ofNat 0), [(5, (.ofNat 1))]), ((.ofNat 0), [(6, (.ofNat 1))]), ((.ofNat 0), [(7, (.ofNat 1))]), ((.ofNat 0), [(8, (.ofNat 1))]), ((.ofNat 0), [(9, (.ofNat 1))]), ((.ofNat 0), [(5, (.ofNat 1))]), ((.ofNat 0), [(10, (.ofNat 1))]), ((.ofNat 0), [(11, (.ofNat 1))]), ((.ofNat 0), [(12, (.ofNat 1))]), ((.ofNat 0), [(13, (.ofNat 1))])])], [], [(228, [((.ofNat 0), [(0, (.ofNat 1))]), ((.ofNat 0), [(1, (.ofNat 1))]), ((.ofNat 0), [(2, (.ofNat 1))]), ((.ofNat 0), [(3, (.ofNat 1))]), ((.ofNat 0), [(4, (.ofNat 1))]), ((.ofNat 0), [(5, (.ofNat 1))]), ((.ofNat 0), [(6, (.ofNat 1))]), ((.ofNat 0), [(7, (.ofNat 1))]), ((.ofNat 0), [(8, (.ofNat 1))]), ((.ofNat 0), [(9, (.ofNat 1))]), ((.ofNat 0), [(10, (.ofNat 1))]), ((.ofNat 0), [(11, (.ofNat 1))]), ((.ofNat 0), [(12, (.ofNat 1))]), ((.ofNat 0), [(13, (.ofNat 1))])])], [], [1], 0, false)
theorem ru_run_ok : RuOk ru_run := by
  refine ⟨by decide, fun ρ hp hf => ?_⟩
  have h1 : w227 (ρ 0) (ρ 1) (ρ 2) (ρ 3) (ρ 4) (ρ 5) (ρ 6) (ρ 7) (ρ 8) (ρ 9) (ρ 5) (ρ 10) (ρ 11) (ρ 12) (ρ 13) := by
    have q : w227 (0 + (1 * ρ 0 + 0)) (0 + (1 * ρ 1 + 0)) (0 + (1 * ρ 2 + 0)) (0 + (1 * ρ 3 + 0)) (0 + (1 * ρ 4 + 0)) (0 + (1 * ρ 5 + 0)) (0 + (1 * ρ 6 + 0)) (0 + (1 * ρ 7 + 0)) (0 + (1 * ρ 8 + 0)) (0 + (1 * ρ 9 + 0)) (0 + (1 * ρ 5 + 0)) (0 + (1 * ρ 10 + 0)) (0 + (1 * ρ 11 + 0)) (0 + (1 * ρ 12 + 0)) (0 + (1 * ρ 13 + 0)) := hp _ (List.mem_cons_of_mem _ List.mem_cons_self)
    simpa only [Int.zero_add, Int.add_zero, Int.one_mul] using q
  clear hp hf
  refine ⟨rfl, ρ, agr2.rf, ?_, ?_⟩
  · refine List.forall_mem_cons.mpr ⟨?_, ?_⟩
    · show w228 (0 + (1 * ρ 0 + 0)) (0 + (1 * ρ 1 + 0)) (0 + (1 * ρ 2 + 0)) (0 + (1 * ρ 3 + 0)) (0 + (1 * ρ 4 + 0)) (0 + (1 * ρ 5 + 0)) (0 + (1 * ρ 6 + 0)) (0 + (1 * ρ 7 + 0)) (0 + (1 * ρ 8 + 0)) (0 + (1 * ρ 9 + 0)) (0 + (1 * ρ 10 + 0)) (0 + (1 * ρ 11 + 0)) (0 + (1 * ρ 12 + 0)) (0 + (1 * ρ 13 + 0))
      try simp only [Int.zero_add, Int.add_zero, Int.one_mul]
      exact h1
    · exact fun _ h => (by cases h)
  · exact fun _ h => (by cases h)
