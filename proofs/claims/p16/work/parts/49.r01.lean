/-! ===== rules, proved (written by wip/vse8/mkrule.py) ===== -/
noncomputable def ru_do0 : RU := (11, [(300, [((.ofNat 0), [(0, (.ofNat 1))]), ((.ofNat 0), [(1, (.ofNat 1))]), ((.ofNat 0), [(2, (.ofNat 1))]), ((.ofNat 0), [(3, (.ofNat 1))]), ((.ofNat 0), [(4, (.ofNat 1))]), ((.ofNat 0), [(5, (.ofNat 1))]), ((.ofNat 0), [(6, (.ofNat 1))]), ((.ofNat 0), [(7, (.ofNat 1))])]), (201, [((.ofNat 0), [(0, (.ofNat 1))]), ((.ofNat 0), [(1, (.ofNat 4))]), ((.ofNat 0), [])]), (201, [((.ofNat 0), [(0, (.ofNat 1))]), ((.ofNat 1), [(1, (.ofNat 4))]), ((.ofNat 0), [(8, (.ofNat 1))])]), (201, [((.ofNat 0), [(0, (.ofNat 1))]), ((.ofNat 2), [(1, (.ofNat 4))]), ((.ofNat 0), [(9, (.ofNat 1))])]), (202, [((.ofNat 0), [(2, (.ofNat 1))]), ((.ofNat 0), [(3, (.ofNat 12)), (8, (.ofNat 1))]), ((.ofNat 0), [(9, (.ofNat 1))]), ((.ofNat 0), [(10, (.ofNat 1))])])], [], [(210, [((.ofNat 0), [(0, (.ofNat 1))]), ((.ofNat 0), [(1, (.ofNat 1))]), ((.ofNat 0), [(2, (.ofNat 1))]), ((.ofNat 0), [(3, (.ofNat 1))]), ((.ofNat 0), [(4, (.ofNat 1))]), ((.ofNat 0), [(5, (.ofNat 1))]), ((.ofNat 0), [(6, (.ofNat 1))]), ((.ofNat 0), [(7, (.ofNat 1))]), ((.ofNat 0), [(10, (.ofNat 1))]), ((.ofNat 0), [(6, (.ofNat 1))]), ((.ofNat 0), [(7, (.ofNat 1))]), ((.ofNat 1), []), ((.ofNat 1), [(1, (.ofNat 1))])])], [], [], 0, false)
theorem ru_do0_ok : RuOk ru_do0 := by
  refine ⟨by decide, fun ρ hp hf => ?_⟩
  have h1 : w201 (ρ 0) (4 * ρ 1) 0 := by
    have q : w201 (0 + (1 * ρ 0 + 0)) (0 + (4 * ρ 1 + 0)) (0 + 0) := hp _ (List.mem_cons_of_mem _ List.mem_cons_self)
    simpa only [Int.zero_add, Int.add_zero, Int.one_mul] using q
  have h2 : w201 (ρ 0) (1 + 4 * ρ 1) (ρ 8) := by
    have q : w201 (0 + (1 * ρ 0 + 0)) (1 + (4 * ρ 1 + 0)) (0 + (1 * ρ 8 + 0)) := hp _ (List.mem_cons_of_mem _ (List.mem_cons_of_mem _ List.mem_cons_self))
    simpa only [Int.zero_add, Int.add_zero, Int.one_mul] using q
  have h3 : w201 (ρ 0) (2 + 4 * ρ 1) (ρ 9) := by
    have q : w201 (0 + (1 * ρ 0 + 0)) (2 + (4 * ρ 1 + 0)) (0 + (1 * ρ 9 + 0)) := hp _ (List.mem_cons_of_mem _ (List.mem_cons_of_mem _ (List.mem_cons_of_mem _ List.mem_cons_self)))
    simpa only [Int.zero_add, Int.add_zero, Int.one_mul] using q
  have h4 : w202 (ρ 2) (12 * ρ 3 + ρ 8) (ρ 9) (ρ 10) := by
    have q : w202 (0 + (1 * ρ 2 + 0)) (0 + (12 * ρ 3 + (1 * ρ 8 + 0))) (0 + (1 * ρ 9 + 0)) (0 + (1 * ρ 10 + 0)) := hp _ (List.mem_cons_of_mem _ (List.mem_cons_of_mem _ (List.mem_cons_of_mem _ (List.mem_cons_of_mem _ List.mem_cons_self))))
    simpa only [Int.zero_add, Int.add_zero, Int.one_mul] using q
  clear hp hf
  refine ⟨rfl, ρ, agr2.rf, ?_, ?_⟩
  · refine List.forall_mem_cons.mpr ⟨?_, ?_⟩
    · show w210 (0 + (1 * ρ 0 + 0)) (0 + (1 * ρ 1 + 0)) (0 + (1 * ρ 2 + 0)) (0 + (1 * ρ 3 + 0)) (0 + (1 * ρ 4 + 0)) (0 + (1 * ρ 5 + 0)) (0 + (1 * ρ 6 + 0)) (0 + (1 * ρ 7 + 0)) (0 + (1 * ρ 10 + 0)) (0 + (1 * ρ 6 + 0)) (0 + (1 * ρ 7 + 0)) (1 + 0) (1 + (1 * ρ 1 + 0))
      try simp only [Int.zero_add, Int.add_zero, Int.one_mul]
      unfold w201 at h1
      unfold w201 at h2
      unfold w201 at h3
      unfold w202 at h4
      unfold w210 doF
      simp [← h1, ← h2, ← h3, h4.1]
    · exact fun _ h => (by cases h)
  · exact fun _ h => (by cases h)
noncomputable def ru_do1 : RU := (15, [(300, [((.ofNat 0), [(0, (.ofNat 1))]), ((.ofNat 0), [(1, (.ofNat 1))]), ((.ofNat 0), [(2, (.ofNat 1))]), ((.ofNat 0), [(3, (.ofNat 1))]), ((.ofNat 0), [(4, (.ofNat 1))]), ((.ofNat 0), [(5, (.ofNat 1))]), ((.ofNat 0), [(6, (.ofNat 1))]), ((.ofNat 0), [(7, (.ofNat 1))])]), (201, [((.ofNat 0), [(0, (.ofNat 1))]), ((.ofNat 0), [(1, (.ofNat 4))]), ((.ofNat 1), [])]), (201, [((.ofNat 0), [(0, (.ofNat 1))]), ((.ofNat 1), [(1, (.ofNat 4))]), ((.ofNat 0), [(8, (.ofNat 1))])]), (201, [((.ofNat 0), [(0, (.ofNat 1))]), ((.ofNat 2), [(1, (.ofNat 4))]), ((.ofNat 0), [(9, (.ofNat 1))])]), (201, [((.ofNat 0), [(0, (.ofNat 1))]), ((.ofNat 3), [(1, (.ofNat 4))]), ((.ofNat 0), [(10, (.ofNat 1))])]), (201, [((.ofNat 0), [(2, (.ofNat 1))]), ((.ofNat 0), [(3, (.ofNat 12)), (9, (.ofNat 1))]), ((.ofNat 0), [(11, (.ofNat 1))])]), (201, [((.ofNat 0), [(2, (.ofNat 1))]), ((.ofNat 0), [(3, (.ofNat 12)), (10, (.ofNat 1))]), ((.ofNat 0), [(12, (.ofNat 1))])]), (200, [((.ofNat 1), []), ((.ofNat 0), [(11, (.ofNat 1)), (12, (.ofNat 1))]), ((.ofNat 0), []), ((.ofNat 0), [(13, (.ofNat 1))])]), (202, [((.ofNat 0), [(2, (.ofNat 1))]), ((.ofNat 0), [(3, (.ofNat 12)), (8, (.ofNat 1))]), ((.ofNat 0), [(13, (.ofNat 1))]), ((.ofNat 0), [(14, (.ofNat 1))])])], [], [(210, [((.ofNat 0), [(0, (.ofNat 1))]), ((.ofNat 0), [(1, (.ofNat 1))]), ((.ofNat 0), [(2, (.ofNat 1))]), ((.ofNat 0), [(3, (.ofNat 1))]), ((.ofNat 0), [(4, (.ofNat 1))]), ((.ofNat 0), [(5, (.ofNat 1))]), ((.ofNat 0), [(6, (.ofNat 1))]), ((.ofNat 0), [(7, (.ofNat 1))]), ((.ofNat 0), [(14, (.ofNat 1))]), ((.ofNat 0), [(6, (.ofNat 1))]), ((.ofNat 0), [(7, (.ofNat 1))]), ((.ofNat 1), []), ((.ofNat 1), [(1, (.ofNat 1))])])], [], [], 0, false)
theorem ru_do1_ok : RuOk ru_do1 := by
  refine ⟨by decide, fun ρ hp hf => ?_⟩
  have h1 : w201 (ρ 0) (4 * ρ 1) 1 := by
    have q : w201 (0 + (1 * ρ 0 + 0)) (0 + (4 * ρ 1 + 0)) (1 + 0) := hp _ (List.mem_cons_of_mem _ List.mem_cons_self)
    simpa only [Int.zero_add, Int.add_zero, Int.one_mul] using q
  have h2 : w201 (ρ 0) (1 + 4 * ρ 1) (ρ 8) := by
    have q : w201 (0 + (1 * ρ 0 + 0)) (1 + (4 * ρ 1 + 0)) (0 + (1 * ρ 8 + 0)) := hp _ (List.mem_cons_of_mem _ (List.mem_cons_of_mem _ List.mem_cons_self))
    simpa only [Int.zero_add, Int.add_zero, Int.one_mul] using q
  have h3 : w201 (ρ 0) (2 + 4 * ρ 1) (ρ 9) := by
    have q : w201 (0 + (1 * ρ 0 + 0)) (2 + (4 * ρ 1 + 0)) (0 + (1 * ρ 9 + 0)) := hp _ (List.mem_cons_of_mem _ (List.mem_cons_of_mem _ (List.mem_cons_of_mem _ List.mem_cons_self)))
    simpa only [Int.zero_add, Int.add_zero, Int.one_mul] using q
  have h4 : w201 (ρ 0) (3 + 4 * ρ 1) (ρ 10) := by
    have q : w201 (0 + (1 * ρ 0 + 0)) (3 + (4 * ρ 1 + 0)) (0 + (1 * ρ 10 + 0)) := hp _ (List.mem_cons_of_mem _ (List.mem_cons_of_mem _ (List.mem_cons_of_mem _ (List.mem_cons_of_mem _ List.mem_cons_self))))
    simpa only [Int.zero_add, Int.add_zero, Int.one_mul] using q
  have h5 : w201 (ρ 2) (12 * ρ 3 + ρ 9) (ρ 11) := by
    have q : w201 (0 + (1 * ρ 2 + 0)) (0 + (12 * ρ 3 + (1 * ρ 9 + 0))) (0 + (1 * ρ 11 + 0)) := hp _ (List.mem_cons_of_mem _ (List.mem_cons_of_mem _ (List.mem_cons_of_mem _ (List.mem_cons_of_mem _ (List.mem_cons_of_mem _ List.mem_cons_self)))))
    simpa only [Int.zero_add, Int.add_zero, Int.one_mul] using q
  have h6 : w201 (ρ 2) (12 * ρ 3 + ρ 10) (ρ 12) := by
    have q : w201 (0 + (1 * ρ 2 + 0)) (0 + (12 * ρ 3 + (1 * ρ 10 + 0))) (0 + (1 * ρ 12 + 0)) := hp _ (List.mem_cons_of_mem _ (List.mem_cons_of_mem _ (List.mem_cons_of_mem _ (List.mem_cons_of_mem _ (List.mem_cons_of_mem _ (List.mem_cons_of_mem _ List.mem_cons_self))))))
    simpa only [Int.zero_add, Int.add_zero, Int.one_mul] using q
  have h7 : w200 1 (ρ 11 + ρ 12) 0 (ρ 13) := by
    have q : w200 (1 + 0) (0 + (1 * ρ 11 + (1 * ρ 12 + 0))) (0 + 0) (0 + (1 * ρ 13 + 0)) := hp _ (List.mem_cons_of_mem _ (List.mem_cons_of_mem _ (List.mem_cons_of_mem _ (List.mem_cons_of_mem _ (List.mem_cons_of_mem _ (List.mem_cons_of_mem _ (List.mem_cons_of_mem _ List.mem_cons_self)))))))
    simpa only [Int.zero_add, Int.add_zero, Int.one_mul] using q
  have h8 : w202 (ρ 2) (12 * ρ 3 + ρ 8) (ρ 13) (ρ 14) := by
    have q : w202 (0 + (1 * ρ 2 + 0)) (0 + (12 * ρ 3 + (1 * ρ 8 + 0))) (0 + (1 * ρ 13 + 0)) (0 + (1 * ρ 14 + 0)) := hp _ (List.mem_cons_of_mem _ (List.mem_cons_of_mem _ (List.mem_cons_of_mem _ (List.mem_cons_of_mem _ (List.mem_cons_of_mem _ (List.mem_cons_of_mem _ (List.mem_cons_of_mem _ (List.mem_cons_of_mem _ List.mem_cons_self))))))))
    simpa only [Int.zero_add, Int.add_zero, Int.one_mul] using q
  clear hp hf
  refine ⟨rfl, ρ, agr2.rf, ?_, ?_⟩
  · refine List.forall_mem_cons.mpr ⟨?_, ?_⟩
    · show w210 (0 + (1 * ρ 0 + 0)) (0 + (1 * ρ 1 + 0)) (0 + (1 * ρ 2 + 0)) (0 + (1 * ρ 3 + 0)) (0 + (1 * ρ 4 + 0)) (0 + (1 * ρ 5 + 0)) (0 + (1 * ρ 6 + 0)) (0 + (1 * ρ 7 + 0)) (0 + (1 * ρ 14 + 0)) (0 + (1 * ρ 6 + 0)) (0 + (1 * ρ 7 + 0)) (1 + 0) (1 + (1 * ρ 1 + 0))
      try simp only [Int.zero_add, Int.add_zero, Int.one_mul]
      unfold w201 at h1
      unfold w201 at h2
      unfold w201 at h3
      unfold w201 at h4
      unfold w201 at h5
      unfold w201 at h6
      unfold w200 at h7
      unfold w202 at h8
      unfold w210 doF
      simp [← h1, ← h2, ← h3, ← h4, ← h5, ← h6, h8.1, h7]
    · exact fun _ h => (by cases h)
  · exact fun _ h => (by cases h)
noncomputable def ru_do2 : RU := (15, [(300, [((.ofNat 0), [(0, (.ofNat 1))]), ((.ofNat 0), [(1, (.ofNat 1))]), ((.ofNat 0), [(2, (.ofNat 1))]), ((.ofNat 0), [(3, (.ofNat 1))]), ((.ofNat 0), [(4, (.ofNat 1))]), ((.ofNat 0), [(5, (.ofNat 1))]), ((.ofNat 0), [(6, (.ofNat 1))]), ((.ofNat 0), [(7, (.ofNat 1))])]), (201, [((.ofNat 0), [(0, (.ofNat 1))]), ((.ofNat 0), [(1, (.ofNat 4))]), ((.ofNat 2), [])]), (201, [((.ofNat 0), [(0, (.ofNat 1))]), ((.ofNat 1), [(1, (.ofNat 4))]), ((.ofNat 0), [(8, (.ofNat 1))])]), (201, [((.ofNat 0), [(0, (.ofNat 1))]), ((.ofNat 2), [(1, (.ofNat 4))]), ((.ofNat 0), [(9, (.ofNat 1))])]), (201, [((.ofNat 0), [(0, (.ofNat 1))]), ((.ofNat 3), [(1, (.ofNat 4))]), ((.ofNat 0), [(10, (.ofNat 1))])]), (201, [((.ofNat 0), [(2, (.ofNat 1))]), ((.ofNat 0), [(3, (.ofNat 12)), (9, (.ofNat 1))]), ((.ofNat 0), [(11, (.ofNat 1))])]), (201, [((.ofNat 0), [(2, (.ofNat 1))]), ((.ofNat 0), [(3, (.ofNat 12)), (10, (.ofNat 1))]), ((.ofNat 0), [(12, (.ofNat 1))])]), (200, [((.ofNat 1), []), ((.ofNat 0), [(11, (.ofNat 1)), (12, (.negSucc 0))]), ((.ofNat 0), []), ((.ofNat 0), [(13, (.ofNat 1))])]), (202, [((.ofNat 0), [(2, (.ofNat 1))]), ((.ofNat 0), [(3, (.ofNat 12)), (8, (.ofNat 1))]), ((.ofNat 0), [(13, (.ofNat 1))]), ((.ofNat 0), [(14, (.ofNat 1))])])], [], [(210, [((.ofNat 0), [(0, (.ofNat 1))]), ((.ofNat 0), [(1, (.ofNat 1))]), ((.ofNat 0), [(2, (.ofNat 1))]), ((.ofNat 0), [(3, (.ofNat 1))]), ((.ofNat 0), [(4, (.ofNat 1))]), ((.ofNat 0), [(5, (.ofNat 1))]), ((.ofNat 0), [(6, (.ofNat 1))]), ((.ofNat 0), [(7, (.ofNat 1))]), ((.ofNat 0), [(14, (.ofNat 1))]), ((.ofNat 0), [(6, (.ofNat 1))]), ((.ofNat 0), [(7, (.ofNat 1))]), ((.ofNat 1), []), ((.ofNat 1), [(1, (.ofNat 1))])])], [], [], 0, false)
theorem ru_do2_ok : RuOk ru_do2 := by
  refine ⟨by decide, fun ρ hp hf => ?_⟩
  have h1 : w201 (ρ 0) (4 * ρ 1) 2 := by
    have q : w201 (0 + (1 * ρ 0 + 0)) (0 + (4 * ρ 1 + 0)) (2 + 0) := hp _ (List.mem_cons_of_mem _ List.mem_cons_self)
    simpa only [Int.zero_add, Int.add_zero, Int.one_mul] using q
  have h2 : w201 (ρ 0) (1 + 4 * ρ 1) (ρ 8) := by
    have q : w201 (0 + (1 * ρ 0 + 0)) (1 + (4 * ρ 1 + 0)) (0 + (1 * ρ 8 + 0)) := hp _ (List.mem_cons_of_mem _ (List.mem_cons_of_mem _ List.mem_cons_self))
    simpa only [Int.zero_add, Int.add_zero, Int.one_mul] using q
  have h3 : w201 (ρ 0) (2 + 4 * ρ 1) (ρ 9) := by
    have q : w201 (0 + (1 * ρ 0 + 0)) (2 + (4 * ρ 1 + 0)) (0 + (1 * ρ 9 + 0)) := hp _ (List.mem_cons_of_mem _ (List.mem_cons_of_mem _ (List.mem_cons_of_mem _ List.mem_cons_self)))
    simpa only [Int.zero_add, Int.add_zero, Int.one_mul] using q
  have h4 : w201 (ρ 0) (3 + 4 * ρ 1) (ρ 10) := by
    have q : w201 (0 + (1 * ρ 0 + 0)) (3 + (4 * ρ 1 + 0)) (0 + (1 * ρ 10 + 0)) := hp _ (List.mem_cons_of_mem _ (List.mem_cons_of_mem _ (List.mem_cons_of_mem _ (List.mem_cons_of_mem _ List.mem_cons_self))))
    simpa only [Int.zero_add, Int.add_zero, Int.one_mul] using q
  have h5 : w201 (ρ 2) (12 * ρ 3 + ρ 9) (ρ 11) := by
    have q : w201 (0 + (1 * ρ 2 + 0)) (0 + (12 * ρ 3 + (1 * ρ 9 + 0))) (0 + (1 * ρ 11 + 0)) := hp _ (List.mem_cons_of_mem _ (List.mem_cons_of_mem _ (List.mem_cons_of_mem _ (List.mem_cons_of_mem _ (List.mem_cons_of_mem _ List.mem_cons_self)))))
    simpa only [Int.zero_add, Int.add_zero, Int.one_mul] using q
  have h6 : w201 (ρ 2) (12 * ρ 3 + ρ 10) (ρ 12) := by
    have q : w201 (0 + (1 * ρ 2 + 0)) (0 + (12 * ρ 3 + (1 * ρ 10 + 0))) (0 + (1 * ρ 12 + 0)) := hp _ (List.mem_cons_of_mem _ (List.mem_cons_of_mem _ (List.mem_cons_of_mem _ (List.mem_cons_of_mem _ (List.mem_cons_of_mem _ (List.mem_cons_of_mem _ List.mem_cons_self))))))
    simpa only [Int.zero_add, Int.add_zero, Int.one_mul] using q
  have h7 : w200 1 (ρ 11 + (-1) * ρ 12) 0 (ρ 13) := by
    have q : w200 (1 + 0) (0 + (1 * ρ 11 + ((-1) * ρ 12 + 0))) (0 + 0) (0 + (1 * ρ 13 + 0)) := hp _ (List.mem_cons_of_mem _ (List.mem_cons_of_mem _ (List.mem_cons_of_mem _ (List.mem_cons_of_mem _ (List.mem_cons_of_mem _ (List.mem_cons_of_mem _ (List.mem_cons_of_mem _ List.mem_cons_self)))))))
    simpa only [Int.zero_add, Int.add_zero, Int.one_mul] using q
  have h8 : w202 (ρ 2) (12 * ρ 3 + ρ 8) (ρ 13) (ρ 14) := by
    have q : w202 (0 + (1 * ρ 2 + 0)) (0 + (12 * ρ 3 + (1 * ρ 8 + 0))) (0 + (1 * ρ 13 + 0)) (0 + (1 * ρ 14 + 0)) := hp _ (List.mem_cons_of_mem _ (List.mem_cons_of_mem _ (List.mem_cons_of_mem _ (List.mem_cons_of_mem _ (List.mem_cons_of_mem _ (List.mem_cons_of_mem _ (List.mem_cons_of_mem _ (List.mem_cons_of_mem _ List.mem_cons_self))))))))
    simpa only [Int.zero_add, Int.add_zero, Int.one_mul] using q
  clear hp hf
  refine ⟨rfl, ρ, agr2.rf, ?_, ?_⟩
  · refine List.forall_mem_cons.mpr ⟨?_, ?_⟩
    · show w210 (0 + (1 * ρ 0 + 0)) (0 + (1 * ρ 1 + 0)) (0 + (1 * ρ 2 + 0)) (0 + (1 * ρ 3 + 0)) (0 + (1 * ρ 4 + 0)) (0 + (1 * ρ 5 + 0)) (0 + (1 * ρ 6 + 0)) (0 + (1 * ρ 7 + 0)) (0 + (1 * ρ 14 + 0)) (0 + (1 * ρ 6 + 0)) (0 + (1 * ρ 7 + 0)) (1 + 0) (1 + (1 * ρ 1 + 0))
      try simp only [Int.zero_add, Int.add_zero, Int.one_mul]
      unfold w201 at h1
      unfold w201 at h2
      unfold w201 at h3
      unfold w201 at h4
      unfold w201 at h5
      unfold w201 at h6
      unfold w200 at h7
      unfold w202 at h8
      unfold w210 doF
      simp [← h1, ← h2, ← h3, ← h4, ← h5, ← h6, h8.1, h7]
    · exact fun _ h => (by cases h)
  · exact fun _ h => (by cases h)
noncomputable def ru_do3 : RU := (15, [(300, [((.ofNat 0), [(0, (.ofNat 1))]), ((.ofNat 0), [(1, (.ofNat 1))]), ((.ofNat 0), [(2, (.ofNat 1))]), ((.ofNat 0), [(3, (.ofNat 1))]), ((.ofNat 0), [(4, (.ofNat 1))]), ((.ofNat 0), [(5, (.ofNat 1))]), ((.ofNat 0), [(6, (.ofNat 1))]), ((.ofNat 0), [(7, (.ofNat 1))])]), (201, [((.ofNat 0), [(0, (.ofNat 1))]), ((.ofNat 0), [(1, (.ofNat 4))]), ((.ofNat 3), [])]), (201, [((.ofNat 0), [(0, (.ofNat 1))]), ((.ofNat 1), [(1, (.ofNat 4))]), ((.ofNat 0), [(8, (.ofNat 1))])]), (201, [((.ofNat 0), [(0, (.ofNat 1))]), ((.ofNat 2), [(1, (.ofNat 4))]), ((.ofNat 0), [(9, (.ofNat 1))])]), (201, [((.ofNat 0), [(0, (.ofNat 1))]), ((.ofNat 3), [(1, (.ofNat 4))]), ((.ofNat 0), [(10, (.ofNat 1))])]), (201, [((.ofNat 0), [(2, (.ofNat 1))]), ((.ofNat 0), [(3, (.ofNat 12)), (9, (.ofNat 1))]), ((.ofNat 0), [(11, (.ofNat 1))])]), (201, [((.ofNat 0), [(2, (.ofNat 1))]), ((.ofNat 0), [(3, (.ofNat 12)), (10, (.ofNat 1))]), ((.ofNat 0), [(12, (.ofNat 1))])]), (200, [((.ofNat 3), []), ((.ofNat 0), [(11, (.ofNat 1))]), ((.ofNat 0), [(12, (.ofNat 1))]), ((.ofNat 0), [(13, (.ofNat 1))])]), (202, [((.ofNat 0), [(2, (.ofNat 1))]), ((.ofNat 0), [(3, (.ofNat 12)), (8, (.ofNat 1))]), ((.ofNat 0), [(13, (.ofNat 1))]), ((.ofNat 0), [(14, (.ofNat 1))])])], [], [(210, [((.ofNat 0), [(0, (.ofNat 1))]), ((.ofNat 0), [(1, (.ofNat 1))]), ((.ofNat 0), [(2, (.ofNat 1))]), ((.ofNat 0), [(3, (.ofNat 1))]), ((.ofNat 0), [(4, (.ofNat 1))]), ((.ofNat 0), [(5, (.ofNat 1))]), ((.ofNat 0), [(6, (.ofNat 1))]), ((.ofNat 0), [(7, (.ofNat 1))]), ((.ofNat 0), [(14, (.ofNat 1))]), ((.ofNat 0), [(6, (.ofNat 1))]), ((.ofNat 0), [(7, (.ofNat 1))]), ((.ofNat 1), []), ((.ofNat 1), [(1, (.ofNat 1))])])], [], [], 0, false)
theorem ru_do3_ok : RuOk ru_do3 := by
  refine ⟨by decide, fun ρ hp hf => ?_⟩
  have h1 : w201 (ρ 0) (4 * ρ 1) 3 := by
    have q : w201 (0 + (1 * ρ 0 + 0)) (0 + (4 * ρ 1 + 0)) (3 + 0) := hp _ (List.mem_cons_of_mem _ List.mem_cons_self)
    simpa only [Int.zero_add, Int.add_zero, Int.one_mul] using q
  have h2 : w201 (ρ 0) (1 + 4 * ρ 1) (ρ 8) := by
    have q : w201 (0 + (1 * ρ 0 + 0)) (1 + (4 * ρ 1 + 0)) (0 + (1 * ρ 8 + 0)) := hp _ (List.mem_cons_of_mem _ (List.mem_cons_of_mem _ List.mem_cons_self))
    simpa only [Int.zero_add, Int.add_zero, Int.one_mul] using q
  have h3 : w201 (ρ 0) (2 + 4 * ρ 1) (ρ 9) := by
    have q : w201 (0 + (1 * ρ 0 + 0)) (2 + (4 * ρ 1 + 0)) (0 + (1 * ρ 9 + 0)) := hp _ (List.mem_cons_of_mem _ (List.mem_cons_of_mem _ (List.mem_cons_of_mem _ List.mem_cons_self)))
    simpa only [Int.zero_add, Int.add_zero, Int.one_mul] using q
  have h4 : w201 (ρ 0) (3 + 4 * ρ 1) (ρ 10) := by
    have q : w201 (0 + (1 * ρ 0 + 0)) (3 + (4 * ρ 1 + 0)) (0 + (1 * ρ 10 + 0)) := hp _ (List.mem_cons_of_mem _ (List.mem_cons_of_mem _ (List.mem_cons_of_mem _ (List.mem_cons_of_mem _ List.mem_cons_self))))
    simpa only [Int.zero_add, Int.add_zero, Int.one_mul] using q
  have h5 : w201 (ρ 2) (12 * ρ 3 + ρ 9) (ρ 11) := by
    have q : w201 (0 + (1 * ρ 2 + 0)) (0 + (12 * ρ 3 + (1 * ρ 9 + 0))) (0 + (1 * ρ 11 + 0)) := hp _ (List.mem_cons_of_mem _ (List.mem_cons_of_mem _ (List.mem_cons_of_mem _ (List.mem_cons_of_mem _ (List.mem_cons_of_mem _ List.mem_cons_self)))))
    simpa only [Int.zero_add, Int.add_zero, Int.one_mul] using q
  have h6 : w201 (ρ 2) (12 * ρ 3 + ρ 10) (ρ 12) := by
    have q : w201 (0 + (1 * ρ 2 + 0)) (0 + (12 * ρ 3 + (1 * ρ 10 + 0))) (0 + (1 * ρ 12 + 0)) := hp _ (List.mem_cons_of_mem _ (List.mem_cons_of_mem _ (List.mem_cons_of_mem _ (List.mem_cons_of_mem _ (List.mem_cons_of_mem _ (List.mem_cons_of_mem _ List.mem_cons_self))))))
    simpa only [Int.zero_add, Int.add_zero, Int.one_mul] using q
  have h7 : w200 3 (ρ 11) (ρ 12) (ρ 13) := by
    have q : w200 (3 + 0) (0 + (1 * ρ 11 + 0)) (0 + (1 * ρ 12 + 0)) (0 + (1 * ρ 13 + 0)) := hp _ (List.mem_cons_of_mem _ (List.mem_cons_of_mem _ (List.mem_cons_of_mem _ (List.mem_cons_of_mem _ (List.mem_cons_of_mem _ (List.mem_cons_of_mem _ (List.mem_cons_of_mem _ List.mem_cons_self)))))))
    simpa only [Int.zero_add, Int.add_zero, Int.one_mul] using q
  have h8 : w202 (ρ 2) (12 * ρ 3 + ρ 8) (ρ 13) (ρ 14) := by
    have q : w202 (0 + (1 * ρ 2 + 0)) (0 + (12 * ρ 3 + (1 * ρ 8 + 0))) (0 + (1 * ρ 13 + 0)) (0 + (1 * ρ 14 + 0)) := hp _ (List.mem_cons_of_mem _ (List.mem_cons_of_mem _ (List.mem_cons_of_mem _ (List.mem_cons_of_mem _ (List.mem_cons_of_mem _ (List.mem_cons_of_mem _ (List.mem_cons_of_mem _ (List.mem_cons_of_mem _ List.mem_cons_self))))))))
    simpa only [Int.zero_add, Int.add_zero, Int.one_mul] using q
  clear hp hf
  refine ⟨rfl, ρ, agr2.rf, ?_, ?_⟩
  · refine List.forall_mem_cons.mpr ⟨?_, ?_⟩
    · show w210 (0 + (1 * ρ 0 + 0)) (0 + (1 * ρ 1 + 0)) (0 + (1 * ρ 2 + 0)) (0 + (1 * ρ 3 + 0)) (0 + (1 * ρ 4 + 0)) (0 + (1 * ρ 5 + 0)) (0 + (1 * ρ 6 + 0)) (0 + (1 * ρ 7 + 0)) (0 + (1 * ρ 14 + 0)) (0 + (1 * ρ 6 + 0)) (0 + (1 * ρ 7 + 0)) (1 + 0) (1 + (1 * ρ 1 + 0))
      try simp only [Int.zero_add, Int.add_zero, Int.one_mul]
      unfold w201 at h1
      unfold w201 at h2
      unfold w201 at h3
      unfold w201 at h4
      unfold w201 at h5
      unfold w201 at h6
      unfold w200 at h7
      unfold w202 at h8
      unfold w210 doF
      simp [← h1, ← h2, ← h3, ← h4, ← h5, ← h6, h8.1, h7]
    · exact fun _ h => (by cases h)
  · exact fun _ h => (by cases h)
noncomputable def ru_do4z : RU := (12, [(300, [((.ofNat 0), [(0, (.ofNat 1))]), ((.ofNat 0), [(1, (.ofNat 1))]), ((.ofNat 0), [(2, (.ofNat 1))]), ((.ofNat 0), [(3, (.ofNat 1))]), ((.ofNat 0), [(4, (.ofNat 1))]), ((.ofNat 0), [(5, (.ofNat 1))]), ((.ofNat 0), [(6, (.ofNat 1))]), ((.ofNat 0), [(7, (.ofNat 1))])]), (201, [((.ofNat 0), [(0, (.ofNat 1))]), ((.ofNat 0), [(1, (.ofNat 4))]), ((.ofNat 4), [])]), (201, [((.ofNat 0), [(0, (.ofNat 1))]), ((.ofNat 1), [(1, (.ofNat 4))]), ((.ofNat 0), [(8, (.ofNat 1))])]), (201, [((.ofNat 0), [(0, (.ofNat 1))]), ((.ofNat 2), [(1, (.ofNat 4))]), ((.ofNat 0), [(9, (.ofNat 1))])]), (201, [((.ofNat 0), [(0, (.ofNat 1))]), ((.ofNat 3), [(1, (.ofNat 4))]), ((.ofNat 0), [(10, (.ofNat 1))])]), (201, [((.ofNat 0), [(2, (.ofNat 1))]), ((.ofNat 0), [(3, (.ofNat 12)), (10, (.ofNat 1))]), ((.ofNat 0), [(11, (.ofNat 1))])])], [((.ofNat 0), [(11, (.ofNat 1))]), ((.ofNat 0), [(11, (.negSucc 0))])], [(210, [((.ofNat 0), [(0, (.ofNat 1))]), ((.ofNat 0), [(1, (.ofNat 1))]), ((.ofNat 0), [(2, (.ofNat 1))]), ((.ofNat 0), [(3, (.ofNat 1))]), ((.ofNat 0), [(4, (.ofNat 1))]), ((.ofNat 0), [(5, (.ofNat 1))]), ((.ofNat 0), [(6, (.ofNat 1))]), ((.ofNat 0), [(7, (.ofNat 1))]), ((.ofNat 0), [(2, (.ofNat 1))]), ((.ofNat 0), [(6, (.ofNat 1))]), ((.ofNat 0), [(7, (.ofNat 1))]), ((.ofNat 0), []), ((.ofNat 0), [])])], [], [], 0, false)
theorem ru_do4z_ok : RuOk ru_do4z := by
  refine ⟨by decide, fun ρ hp hf => ?_⟩
  have h1 : w201 (ρ 0) (4 * ρ 1) 4 := by
    have q : w201 (0 + (1 * ρ 0 + 0)) (0 + (4 * ρ 1 + 0)) (4 + 0) := hp _ (List.mem_cons_of_mem _ List.mem_cons_self)
    simpa only [Int.zero_add, Int.add_zero, Int.one_mul] using q
  have h2 : w201 (ρ 0) (1 + 4 * ρ 1) (ρ 8) := by
    have q : w201 (0 + (1 * ρ 0 + 0)) (1 + (4 * ρ 1 + 0)) (0 + (1 * ρ 8 + 0)) := hp _ (List.mem_cons_of_mem _ (List.mem_cons_of_mem _ List.mem_cons_self))
    simpa only [Int.zero_add, Int.add_zero, Int.one_mul] using q
  have h3 : w201 (ρ 0) (2 + 4 * ρ 1) (ρ 9) := by
    have q : w201 (0 + (1 * ρ 0 + 0)) (2 + (4 * ρ 1 + 0)) (0 + (1 * ρ 9 + 0)) := hp _ (List.mem_cons_of_mem _ (List.mem_cons_of_mem _ (List.mem_cons_of_mem _ List.mem_cons_self)))
    simpa only [Int.zero_add, Int.add_zero, Int.one_mul] using q
  have h4 : w201 (ρ 0) (3 + 4 * ρ 1) (ρ 10) := by
    have q : w201 (0 + (1 * ρ 0 + 0)) (3 + (4 * ρ 1 + 0)) (0 + (1 * ρ 10 + 0)) := hp _ (List.mem_cons_of_mem _ (List.mem_cons_of_mem _ (List.mem_cons_of_mem _ (List.mem_cons_of_mem _ List.mem_cons_self))))
    simpa only [Int.zero_add, Int.add_zero, Int.one_mul] using q
  have h5 : w201 (ρ 2) (12 * ρ 3 + ρ 10) (ρ 11) := by
    have q : w201 (0 + (1 * ρ 2 + 0)) (0 + (12 * ρ 3 + (1 * ρ 10 + 0))) (0 + (1 * ρ 11 + 0)) := hp _ (List.mem_cons_of_mem _ (List.mem_cons_of_mem _ (List.mem_cons_of_mem _ (List.mem_cons_of_mem _ (List.mem_cons_of_mem _ List.mem_cons_self)))))
    simpa only [Int.zero_add, Int.add_zero, Int.one_mul] using q
  have f0 : (0 + (1 * ρ 11 + 0)) ≤ 0 := hf _ List.mem_cons_self
  have f1 : (0 + ((-1) * ρ 11 + 0)) ≤ 0 := hf _ (List.mem_cons_of_mem _ List.mem_cons_self)
  clear hp hf
  refine ⟨rfl, ρ, agr2.rf, ?_, ?_⟩
  · refine List.forall_mem_cons.mpr ⟨?_, ?_⟩
    · show w210 (0 + (1 * ρ 0 + 0)) (0 + (1 * ρ 1 + 0)) (0 + (1 * ρ 2 + 0)) (0 + (1 * ρ 3 + 0)) (0 + (1 * ρ 4 + 0)) (0 + (1 * ρ 5 + 0)) (0 + (1 * ρ 6 + 0)) (0 + (1 * ρ 7 + 0)) (0 + (1 * ρ 2 + 0)) (0 + (1 * ρ 6 + 0)) (0 + (1 * ρ 7 + 0)) (0 + 0) (0 + 0)
      try simp only [Int.zero_add, Int.add_zero, Int.one_mul]
      unfold w201 at h1
      unfold w201 at h2
      unfold w201 at h3
      unfold w201 at h4
      unfold w201 at h5
      unfold w210 doF
      simp [← h1, ← h2, ← h3, ← h4, ← h5]
      all_goals first
        | omega
        | (congr 1; split <;> omega)
        | (split <;> first | omega | (simp; omega) | (simp; done) | (simp [Int.add_comm]; done))
    · exact fun _ h => (by cases h)
  · exact fun _ h => (by cases h)
noncomputable def ru_do4p : RU := (15, [(300, [((.ofNat 0), [(0, (.ofNat 1))]), ((.ofNat 0), [(1, (.ofNat 1))]), ((.ofNat 0), [(2, (.ofNat 1))]), ((.ofNat 0), [(3, (.ofNat 1))]), ((.ofNat 0), [(4, (.ofNat 1))]), ((.ofNat 0), [(5, (.ofNat 1))]), ((.ofNat 0), [(6, (.ofNat 1))]), ((.ofNat 0), [(7, (.ofNat 1))])]), (201, [((.ofNat 0), [(0, (.ofNat 1))]), ((.ofNat 0), [(1, (.ofNat 4))]), ((.ofNat 4), [])]), (201, [((.ofNat 0), [(0, (.ofNat 1))]), ((.ofNat 1), [(1, (.ofNat 4))]), ((.ofNat 0), [(8, (.ofNat 1))])]), (201, [((.ofNat 0), [(0, (.ofNat 1))]), ((.ofNat 2), [(1, (.ofNat 4))]), ((.ofNat 0), [(9, (.ofNat 1))])]), (201, [((.ofNat 0), [(0, (.ofNat 1))]), ((.ofNat 3), [(1, (.ofNat 4))]), ((.ofNat 0), [(10, (.ofNat 1))])]), (201, [((.ofNat 0), [(2, (.ofNat 1))]), ((.ofNat 0), [(3, (.ofNat 12)), (9, (.ofNat 1))]), ((.ofNat 0), [(11, (.ofNat 1))])]), (201, [((.ofNat 0), [(2, (.ofNat 1))]), ((.ofNat 0), [(3, (.ofNat 12)), (10, (.ofNat 1))]), ((.ofNat 0), [(12, (.ofNat 1))])]), (200, [((.ofNat 5), []), ((.ofNat 0), [(11, (.ofNat 1))]), ((.ofNat 0), [(12, (.ofNat 1))]), ((.ofNat 0), [(13, (.ofNat 1))])]), (202, [((.ofNat 0), [(2, (.ofNat 1))]), ((.ofNat 0), [(3, (.ofNat 12)), (8, (.ofNat 1))]), ((.ofNat 0), [(13, (.ofNat 1))]), ((.ofNat 0), [(14, (.ofNat 1))])])], [((.ofNat 1), [(12, (.negSucc 0))])], [(210, [((.ofNat 0), [(0, (.ofNat 1))]), ((.ofNat 0), [(1, (.ofNat 1))]), ((.ofNat 0), [(2, (.ofNat 1))]), ((.ofNat 0), [(3, (.ofNat 1))]), ((.ofNat 0), [(4, (.ofNat 1))]), ((.ofNat 0), [(5, (.ofNat 1))]), ((.ofNat 0), [(6, (.ofNat 1))]), ((.ofNat 0), [(7, (.ofNat 1))]), ((.ofNat 0), [(14, (.ofNat 1))]), ((.ofNat 0), [(6, (.ofNat 1))]), ((.ofNat 0), [(7, (.ofNat 1))]), ((.ofNat 1), []), ((.ofNat 1), [(1, (.ofNat 1))])])], [], [], 0, false)
theorem ru_do4p_ok : RuOk ru_do4p := by
  refine ⟨by decide, fun ρ hp hf => ?_⟩
  have h1 : w201 (ρ 0) (4 * ρ 1) 4 := by
    have q : w201 (0 + (1 * ρ 0 + 0)) (0 + (4 * ρ 1 + 0)) (4 + 0) := hp _ (List.mem_cons_of_mem _ List.mem_cons_self)
    simpa only [Int.zero_add, Int.add_zero, Int.one_mul] using q
  have h2 : w201 (ρ 0) (1 + 4 * ρ 1) (ρ 8) := by
    have q : w201 (0 + (1 * ρ 0 + 0)) (1 + (4 * ρ 1 + 0)) (0 + (1 * ρ 8 + 0)) := hp _ (List.mem_cons_of_mem _ (List.mem_cons_of_mem _ List.mem_cons_self))
    simpa only [Int.zero_add, Int.add_zero, Int.one_mul] using q
  have h3 : w201 (ρ 0) (2 + 4 * ρ 1) (ρ 9) := by
    have q : w201 (0 + (1 * ρ 0 + 0)) (2 + (4 * ρ 1 + 0)) (0 + (1 * ρ 9 + 0)) := hp _ (List.mem_cons_of_mem _ (List.mem_cons_of_mem _ (List.mem_cons_of_mem _ List.mem_cons_self)))
    simpa only [Int.zero_add, Int.add_zero, Int.one_mul] using q
  have h4 : w201 (ρ 0) (3 + 4 * ρ 1) (ρ 10) := by
    have q : w201 (0 + (1 * ρ 0 + 0)) (3 + (4 * ρ 1 + 0)) (0 + (1 * ρ 10 + 0)) := hp _ (List.mem_cons_of_mem _ (List.mem_cons_of_mem _ (List.mem_cons_of_mem _ (List.mem_cons_of_mem _ List.mem_cons_self))))
    simpa only [Int.zero_add, Int.add_zero, Int.one_mul] using q
  have h5 : w201 (ρ 2) (12 * ρ 3 + ρ 9) (ρ 11) := by
    have q : w201 (0 + (1 * ρ 2 + 0)) (0 + (12 * ρ 3 + (1 * ρ 9 + 0))) (0 + (1 * ρ 11 + 0)) := hp _ (List.mem_cons_of_mem _ (List.mem_cons_of_mem _ (List.mem_cons_of_mem _ (List.mem_cons_of_mem _ (List.mem_cons_of_mem _ List.mem_cons_self)))))
    simpa only [Int.zero_add, Int.add_zero, Int.one_mul] using q
  have h6 : w201 (ρ 2) (12 * ρ 3 + ρ 10) (ρ 12) := by
    have q : w201 (0 + (1 * ρ 2 + 0)) (0 + (12 * ρ 3 + (1 * ρ 10 + 0))) (0 + (1 * ρ 12 + 0)) := hp _ (List.mem_cons_of_mem _ (List.mem_cons_of_mem _ (List.mem_cons_of_mem _ (List.mem_cons_of_mem _ (List.mem_cons_of_mem _ (List.mem_cons_of_mem _ List.mem_cons_self))))))
    simpa only [Int.zero_add, Int.add_zero, Int.one_mul] using q
  have h7 : w200 5 (ρ 11) (ρ 12) (ρ 13) := by
    have q : w200 (5 + 0) (0 + (1 * ρ 11 + 0)) (0 + (1 * ρ 12 + 0)) (0 + (1 * ρ 13 + 0)) := hp _ (List.mem_cons_of_mem _ (List.mem_cons_of_mem _ (List.mem_cons_of_mem _ (List.mem_cons_of_mem _ (List.mem_cons_of_mem _ (List.mem_cons_of_mem _ (List.mem_cons_of_mem _ List.mem_cons_self)))))))
    simpa only [Int.zero_add, Int.add_zero, Int.one_mul] using q
  have h8 : w202 (ρ 2) (12 * ρ 3 + ρ 8) (ρ 13) (ρ 14) := by
    have q : w202 (0 + (1 * ρ 2 + 0)) (0 + (12 * ρ 3 + (1 * ρ 8 + 0))) (0 + (1 * ρ 13 + 0)) (0 + (1 * ρ 14 + 0)) := hp _ (List.mem_cons_of_mem _ (List.mem_cons_of_mem _ (List.mem_cons_of_mem _ (List.mem_cons_of_mem _ (List.mem_cons_of_mem _ (List.mem_cons_of_mem _ (List.mem_cons_of_mem _ (List.mem_cons_of_mem _ List.mem_cons_self))))))))
    simpa only [Int.zero_add, Int.add_zero, Int.one_mul] using q
  have f0 : (1 + ((-1) * ρ 12 + 0)) ≤ 0 := hf _ List.mem_cons_self
  clear hp hf
  refine ⟨rfl, ρ, agr2.rf, ?_, ?_⟩
  · refine List.forall_mem_cons.mpr ⟨?_, ?_⟩
    · show w210 (0 + (1 * ρ 0 + 0)) (0 + (1 * ρ 1 + 0)) (0 + (1 * ρ 2 + 0)) (0 + (1 * ρ 3 + 0)) (0 + (1 * ρ 4 + 0)) (0 + (1 * ρ 5 + 0)) (0 + (1 * ρ 6 + 0)) (0 + (1 * ρ 7 + 0)) (0 + (1 * ρ 14 + 0)) (0 + (1 * ρ 6 + 0)) (0 + (1 * ρ 7 + 0)) (1 + 0) (1 + (1 * ρ 1 + 0))
      try simp only [Int.zero_add, Int.add_zero, Int.one_mul]
      unfold w201 at h1
      unfold w201 at h2
      unfold w201 at h3
      unfold w201 at h4
      unfold w201 at h5
      unfold w201 at h6
      unfold w200 at h7
      unfold w202 at h8
      unfold w210 doF
      simp [← h1, ← h2, ← h3, ← h4, ← h5, ← h6, h8.1, h7]
      all_goals first
        | omega
        | (congr 1; split <;> omega)
        | (split <;> first | omega | (simp; omega) | (simp; done) | (simp [Int.add_comm]; done))
    · exact fun _ h => (by cases h)
  · exact fun _ h => (by cases h)
noncomputable def ru_do4n : RU := (15, [(300, [((.ofNat 0), [(0, (.ofNat 1))]), ((.ofNat 0), [(1, (.ofNat 1))]), ((.ofNat 0), [(2, (.ofNat 1))]), ((.ofNat 0), [(3, (.ofNat 1))]), ((.ofNat 0), [(4, (.ofNat 1))]), ((.ofNat 0), [(5, (.ofNat 1))]), ((.ofNat 0), [(6, (.ofNat 1))]), ((.ofNat 0), [(7, (.ofNat 1))])]), (201, [((.ofNat 0), [(0, (.ofNat 1))]), ((.ofNat 0), [(1, (.ofNat 4))]), ((.ofNat 4), [])]), (201, [((.ofNat 0), [(0, (.ofNat 1))]), ((.ofNat 1), [(1, (.ofNat 4))]), ((.ofNat 0), [(8, (.ofNat 1))])]), (201, [((.ofNat 0), [(0, (.ofNat 1))]), ((.ofNat 2), [(1, (.ofNat 4))]), ((.ofNat 0), [(9, (.ofNat 1))])]), (201, [((.ofNat 0), [(0, (.ofNat 1))]), ((.ofNat 3), [(1, (.ofNat 4))]), ((.ofNat 0), [(10, (.ofNat 1))])]), (201, [((.ofNat 0), [(2, (.ofNat 1))]), ((.ofNat 0), [(3, (.ofNat 12)), (9, (.ofNat 1))]), ((.ofNat 0), [(11, (.ofNat 1))])]), (201, [((.ofNat 0), [(2, (.ofNat 1))]), ((.ofNat 0), [(3, (.ofNat 12)), (10, (.ofNat 1))]), ((.ofNat 0), [(12, (.ofNat 1))])]), (200, [((.ofNat 5), []), ((.ofNat 0), [(11, (.ofNat 1))]), ((.ofNat 0), [(12, (.ofNat 1))]), ((.ofNat 0), [(13, (.ofNat 1))])]), (202, [((.ofNat 0), [(2, (.ofNat 1))]), ((.ofNat 0), [(3, (.ofNat 12)), (8, (.ofNat 1))]), ((.ofNat 0), [(13, (.ofNat 1))]), ((.ofNat 0), [(14, (.ofNat 1))])])], [((.ofNat 1), [(12, (.ofNat 1))])], [(210, [((.ofNat 0), [(0, (.ofNat 1))]), ((.ofNat 0), [(1, (.ofNat 1))]), ((.ofNat 0), [(2, (.ofNat 1))]), ((.ofNat 0), [(3, (.ofNat 1))]), ((.ofNat 0), [(4, (.ofNat 1))]), ((.ofNat 0), [(5, (.ofNat 1))]), ((.ofNat 0), [(6, (.ofNat 1))]), ((.ofNat 0), [(7, (.ofNat 1))]), ((.ofNat 0), [(14, (.ofNat 1))]), ((.ofNat 0), [(6, (.ofNat 1))]), ((.ofNat 0), [(7, (.ofNat 1))]), ((.ofNat 1), []), ((.ofNat 1), [(1, (.ofNat 1))])])], [], [], 0, false)
theorem ru_do4n_ok : RuOk ru_do4n := by
  refine ⟨by decide, fun ρ hp hf => ?_⟩
  have h1 : w201 (ρ 0) (4 * ρ 1) 4 := by
    have q : w201 (0 + (1 * ρ 0 + 0)) (0 + (4 * ρ 1 + 0)) (4 + 0) := hp _ (List.mem_cons_of_mem _ List.mem_cons_self)
    simpa only [Int.zero_add, Int.add_zero, Int.one_mul] using q
  have h2 : w201 (ρ 0) (1 + 4 * ρ 1) (ρ 8) := by
    have q : w201 (0 + (1 * ρ 0 + 0)) (1 + (4 * ρ 1 + 0)) (0 + (1 * ρ 8 + 0)) := hp _ (List.mem_cons_of_mem _ (List.mem_cons_of_mem _ List.mem_cons_self))
    simpa only [Int.zero_add, Int.add_zero, Int.one_mul] using q
  have h3 : w201 (ρ 0) (2 + 4 * ρ 1) (ρ 9) := by
    have q : w201 (0 + (1 * ρ 0 + 0)) (2 + (4 * ρ 1 + 0)) (0 + (1 * ρ 9 + 0)) := hp _ (List.mem_cons_of_mem _ (List.mem_cons_of_mem _ (List.mem_cons_of_mem _ List.mem_cons_self)))
    simpa only [Int.zero_add, Int.add_zero, Int.one_mul] using q
  have h4 : w201 (ρ 0) (3 + 4 * ρ 1) (ρ 10) := by
    have q : w201 (0 + (1 * ρ 0 + 0)) (3 + (4 * ρ 1 + 0)) (0 + (1 * ρ 10 + 0)) := hp _ (List.mem_cons_of_mem _ (List.mem_cons_of_mem _ (List.mem_cons_of_mem _ (List.mem_cons_of_mem _ List.mem_cons_self))))
    simpa only [Int.zero_add, Int.add_zero, Int.one_mul] using q
  have h5 : w201 (ρ 2) (12 * ρ 3 + ρ 9) (ρ 11) := by
    have q : w201 (0 + (1 * ρ 2 + 0)) (0 + (12 * ρ 3 + (1 * ρ 9 + 0))) (0 + (1 * ρ 11 + 0)) := hp _ (List.mem_cons_of_mem _ (List.mem_cons_of_mem _ (List.mem_cons_of_mem _ (List.mem_cons_of_mem _ (List.mem_cons_of_mem _ List.mem_cons_self)))))
    simpa only [Int.zero_add, Int.add_zero, Int.one_mul] using q
  have h6 : w201 (ρ 2) (12 * ρ 3 + ρ 10) (ρ 12) := by
    have q : w201 (0 + (1 * ρ 2 + 0)) (0 + (12 * ρ 3 + (1 * ρ 10 + 0))) (0 + (1 * ρ 12 + 0)) := hp _ (List.mem_cons_of_mem _ (List.mem_cons_of_mem _ (List.mem_cons_of_mem _ (List.mem_cons_of_mem _ (List.mem_cons_of_mem _ (List.mem_cons_of_mem _ List.mem_cons_self))))))
    simpa only [Int.zero_add, Int.add_zero, Int.one_mul] using q
  have h7 : w200 5 (ρ 11) (ρ 12) (ρ 13) := by
    have q : w200 (5 + 0) (0 + (1 * ρ 11 + 0)) (0 + (1 * ρ 12 + 0)) (0 + (1 * ρ 13 + 0)) := hp _ (List.mem_cons_of_mem _ (List.mem_cons_of_mem _ (List.mem_cons_of_mem _ (List.mem_cons_of_mem _ (List.mem_cons_of_mem _ (List.mem_cons_of_mem _ (List.mem_cons_of_mem _ List.mem_cons_self)))))))
    simpa only [Int.zero_add, Int.add_zero, Int.one_mul] using q
  have h8 : w202 (ρ 2) (12 * ρ 3 + ρ 8) (ρ 13) (ρ 14) := by
    have q : w202 (0 + (1 * ρ 2 + 0)) (0 + (12 * ρ 3 + (1 * ρ 8 + 0))) (0 + (1 * ρ 13 + 0)) (0 + (1 * ρ 14 + 0)) := hp _ (List.mem_cons_of_mem _ (List.mem_cons_of_mem _ (List.mem_cons_of_mem _ (List.mem_cons_of_mem _ (List.mem_cons_of_mem _ (List.mem_cons_of_mem _ (List.mem_cons_of_mem _ (List.mem_cons_of_mem _ List.mem_cons_self))))))))
    simpa only [Int.zero_add, Int.add_zero, Int.one_mul] using q
  have f0 : (1 + (1 * ρ 12 + 0)) ≤ 0 := hf _ List.mem_cons_self
  clear hp hf
  refine ⟨rfl, ρ, agr2.rf, ?_, ?_⟩
  · refine List.forall_mem_cons.mpr ⟨?_, ?_⟩
    · show w210 (0 + (1 * ρ 0 + 0)) (0 + (1 * ρ 1 + 0)) (0 + (1 * ρ 2 + 0)) (0 + (1 * ρ 3 + 0)) (0 + (1 * ρ 4 + 0)) (0 + (1 * ρ 5 + 0)) (0 + (1 * ρ 6 + 0)) (0 + (1 * ρ 7 + 0)) (0 + (1 * ρ 14 + 0)) (0 + (1 * ρ 6 + 0)) (0 + (1 * ρ 7 + 0)) (1 + 0) (1 + (1 * ρ 1 + 0))
      try simp only [Int.zero_add, Int.add_zero, Int.one_mul]
      unfold w201 at h1
      unfold w201 at h2
      unfold w201 at h3
      unfold w201 at h4
      unfold w201 at h5
      unfold w201 at h6
      unfold w200 at h7
      unfold w202 at h8
      unfold w210 doF
      simp [← h1, ← h2, ← h3, ← h4, ← h5, ← h6, h8.1, h7]
      all_goals first
        | omega
        | (congr 1; split <;> omega)
        | (split <;> first | omega | (simp; omega) | (simp; done) | (simp [Int.add_comm]; done))
    · exact fun _ h => (by cases h)
  · exact fun _ h => (by cases h)
noncomputable def ru_do5a : RU := (14, [(300, [((.ofNat 0), [(0, (.ofNat 1))]), ((.ofNat 0), [(1, (.ofNat 1))]), ((.ofNat 0), [(2, (.ofNat 1))]), ((.ofNat 0), [(3, (.ofNat 1))]), ((.ofNat 0), [(4, (.ofNat 1))]), ((.ofNat 0), [(5, (.ofNat 1))]), ((.ofNat 0), [(6, (.ofNat 1))]), ((.ofNat 0), [(7, (.ofNat 1))])]), (201, [((.ofNat 0), [(0, (.ofNat 1))]), ((.ofNat 0), [(1, (.ofNat 4))]), ((.ofNat 5), [])]), (201, [((.ofNat 0), [(0, (.ofNat 1))]), ((.ofNat 1), [(1, (.ofNat 4))]), ((.ofNat 0), [(8, (.ofNat 1))])]), (201, [((.ofNat 0), [(0, (.ofNat 1))]), ((.ofNat 2), [(1, (.ofNat 4))]), ((.ofNat 0), [(9, (.ofNat 1))])]), (201, [((.ofNat 0), [(0, (.ofNat 1))]), ((.ofNat 3), [(1, (.ofNat 4))]), ((.ofNat 0), [(10, (.ofNat 1))])]), (201, [((.ofNat 0), [(2, (.ofNat 1))]), ((.ofNat 0), [(3, (.ofNat 12)), (9, (.ofNat 1))]), ((.ofNat 0), [(11, (.ofNat 1))])]), (201, [((.ofNat 0), [(2, (.ofNat 1))]), ((.ofNat 0), [(3, (.ofNat 12)), (10, (.ofNat 1))]), ((.ofNat 0), [(12, (.ofNat 1))])]), (202, [((.ofNat 0), [(2, (.ofNat 1))]), ((.ofNat 0), [(3, (.ofNat 12)), (8, (.ofNat 1))]), ((.ofNat 0), [(11, (.ofNat 1))]), ((.ofNat 0), [(13, (.ofNat 1))])])], [((.ofNat 0), [(11, (.ofNat 1)), (12, (.negSucc 0))])], [(210, [((.ofNat 0), [(0, (.ofNat 1))]), ((.ofNat 0), [(1, (.ofNat 1))]), ((.ofNat 0), [(2, (.ofNat 1))]), ((.ofNat 0), [(3, (.ofNat 1))]), ((.ofNat 0), [(4, (.ofNat 1))]), ((.ofNat 0), [(5, (.ofNat 1))]), ((.ofNat 0), [(6, (.ofNat 1))]), ((.ofNat 0), [(7, (.ofNat 1))]), ((.ofNat 0), [(13, (.ofNat 1))]), ((.ofNat 0), [(6, (.ofNat 1))]), ((.ofNat 0), [(7, (.ofNat 1))]), ((.ofNat 1), []), ((.ofNat 1), [(1, (.ofNat 1))])])], [], [], 0, false)
theorem ru_do5a_ok : RuOk ru_do5a := by
  refine ⟨by decide, fun ρ hp hf => ?_⟩
  have h1 : w201 (ρ 0) (4 * ρ 1) 5 := by
    have q : w201 (0 + (1 * ρ 0 + 0)) (0 + (4 * ρ 1 + 0)) (5 + 0) := hp _ (List.mem_cons_of_mem _ List.mem_cons_self)
    simpa only [Int.zero_add, Int.add_zero, Int.one_mul] using q
  have h2 : w201 (ρ 0) (1 + 4 * ρ 1) (ρ 8) := by
    have q : w201 (0 + (1 * ρ 0 + 0)) (1 + (4 * ρ 1 + 0)) (0 + (1 * ρ 8 + 0)) := hp _ (List.mem_cons_of_mem _ (List.mem_cons_of_mem _ List.mem_cons_self))
    simpa only [Int.zero_add, Int.add_zero, Int.one_mul] using q
  have h3 : w201 (ρ 0) (2 + 4 * ρ 1) (ρ 9) := by
    have q : w201 (0 + (1 * ρ 0 + 0)) (2 + (4 * ρ 1 + 0)) (0 + (1 * ρ 9 + 0)) := hp _ (List.mem_cons_of_mem _ (List.mem_cons_of_mem _ (List.mem_cons_of_mem _ List.mem_cons_self)))
    simpa only [Int.zero_add, Int.add_zero, Int.one_mul] using q
  have h4 : w201 (ρ 0) (3 + 4 * ρ 1) (ρ 10) := by
    have q : w201 (0 + (1 * ρ 0 + 0)) (3 + (4 * ρ 1 + 0)) (0 + (1 * ρ 10 + 0)) := hp _ (List.mem_cons_of_mem _ (List.mem_cons_of_mem _ (List.mem_cons_of_mem _ (List.mem_cons_of_mem _ List.mem_cons_self))))
    simpa only [Int.zero_add, Int.add_zero, Int.one_mul] using q
  have h5 : w201 (ρ 2) (12 * ρ 3 + ρ 9) (ρ 11) := by
    have q : w201 (0 + (1 * ρ 2 + 0)) (0 + (12 * ρ 3 + (1 * ρ 9 + 0))) (0 + (1 * ρ 11 + 0)) := hp _ (List.mem_cons_of_mem _ (List.mem_cons_of_mem _ (List.mem_cons_of_mem _ (List.mem_cons_of_mem _ (List.mem_cons_of_mem _ List.mem_cons_self)))))
    simpa only [Int.zero_add, Int.add_zero, Int.one_mul] using q
  have h6 : w201 (ρ 2) (12 * ρ 3 + ρ 10) (ρ 12) := by
    have q : w201 (0 + (1 * ρ 2 + 0)) (0 + (12 * ρ 3 + (1 * ρ 10 + 0))) (0 + (1 * ρ 12 + 0)) := hp _ (List.mem_cons_of_mem _ (List.mem_cons_of_mem _ (List.mem_cons_of_mem _ (List.mem_cons_of_mem _ (List.mem_cons_of_mem _ (List.mem_cons_of_mem _ List.mem_cons_self))))))
    simpa only [Int.zero_add, Int.add_zero, Int.one_mul] using q
  have h7 : w202 (ρ 2) (12 * ρ 3 + ρ 8) (ρ 11) (ρ 13) := by
    have q : w202 (0 + (1 * ρ 2 + 0)) (0 + (12 * ρ 3 + (1 * ρ 8 + 0))) (0 + (1 * ρ 11 + 0)) (0 + (1 * ρ 13 + 0)) := hp _ (List.mem_cons_of_mem _ (List.mem_cons_of_mem _ (List.mem_cons_of_mem _ (List.mem_cons_of_mem _ (List.mem_cons_of_mem _ (List.mem_cons_of_mem _ (List.mem_cons_of_mem _ List.mem_cons_self)))))))
    simpa only [Int.zero_add, Int.add_zero, Int.one_mul] using q
  have f0 : (0 + (1 * ρ 11 + ((-1) * ρ 12 + 0))) ≤ 0 := hf _ List.mem_cons_self
  clear hp hf
  refine ⟨rfl, ρ, agr2.rf, ?_, ?_⟩
  · refine List.forall_mem_cons.mpr ⟨?_, ?_⟩
    · show w210 (0 + (1 * ρ 0 + 0)) (0 + (1 * ρ 1 + 0)) (0 + (1 * ρ 2 + 0)) (0 + (1 * ρ 3 + 0)) (0 + (1 * ρ 4 + 0)) (0 + (1 * ρ 5 + 0)) (0 + (1 * ρ 6 + 0)) (0 + (1 * ρ 7 + 0)) (0 + (1 * ρ 13 + 0)) (0 + (1 * ρ 6 + 0)) (0 + (1 * ρ 7 + 0)) (1 + 0) (1 + (1 * ρ 1 + 0))
      try simp only [Int.zero_add, Int.add_zero, Int.one_mul]
      unfold w201 at h1
      unfold w201 at h2
      unfold w201 at h3
      unfold w201 at h4
      unfold w201 at h5
      unfold w201 at h6
      unfold w202 at h7
      unfold w210 doF
      simp [← h1, ← h2, ← h3, ← h4, ← h5, ← h6, h7.1]
      all_goals first
        | omega
        | (congr 1; split <;> omega)
        | (split <;> first | omega | (simp; omega) | (simp; done) | (simp [Int.add_comm]; done))
    · exact fun _ h => (by cases h)
  · exact fun _ h => (by cases h)
noncomputable def ru_do5b : RU := (14, [(300, [((.ofNat 0), [(0, (.ofNat 1))]), ((.ofNat 0), [(1, (.ofNat 1))]), ((.ofNat 0), [(2, (.ofNat 1))]), ((.ofNat 0), [(3, (.ofNat 1))]), ((.ofNat 0), [(4, (.ofNat 1))]), ((.ofNat 0), [(5, (.ofNat 1))]), ((.ofNat 0), [(6, (.ofNat 1))]), ((.ofNat 0), [(7, (.ofNat 1))])]), (201, [((.ofNat 0), [(0, (.ofNat 1))]), ((.ofNat 0), [(1, (.ofNat 4))]), ((.ofNat 5), [])]), (201, [((.ofNat 0), [(0, (.ofNat 1))]), ((.ofNat 1), [(1, (.ofNat 4))]), ((.ofNat 0), [(8, (.ofNat 1))])]), (201, [((.ofNat 0), [(0, (.ofNat 1))]), ((.ofNat 2), [(1, (.ofNat 4))]), ((.ofNat 0), [(9, (.ofNat 1))])]), (201, [((.ofNat 0), [(0, (.ofNat 1))]), ((.ofNat 3), [(1, (.ofNat 4))]), ((.ofNat 0), [(10, (.ofNat 1))])]), (201, [((.ofNat 0), [(2, (.ofNat 1))]), ((.ofNat 0), [(3, (.ofNat 12)), (9, (.ofNat 1))]), ((.ofNat 0), [(11, (.ofNat 1))])]), (201, [((.ofNat 0), [(2, (.ofNat 1))]), ((.ofNat 0), [(3, (.ofNat 12)), (10, (.ofNat 1))]), ((.ofNat 0), [(12, (.ofNat 1))])]), (202, [((.ofNat 0), [(2, (.ofNat 1))]), ((.ofNat 0), [(3, (.ofNat 12)), (8, (.ofNat 1))]), ((.ofNat 0), [(12, (.ofNat 1))]), ((.ofNat 0), [(13, (.ofNat 1))])])], [((.ofNat 0), [(11, (.negSucc 0)), (12, (.ofNat 1))])], [(210, [((.ofNat 0), [(0, (.ofNat 1))]), ((.ofNat 0), [(1, (.ofNat 1))]), ((.ofNat 0), [(2, (.ofNat 1))]), ((.ofNat 0), [(3, (.ofNat 1))]), ((.ofNat 0), [(4, (.ofNat 1))]), ((.ofNat 0), [(5, (.ofNat 1))]), ((.ofNat 0), [(6, (.ofNat 1))]), ((.ofNat 0), [(7, (.ofNat 1))]), ((.ofNat 0), [(13, (.ofNat 1))]), ((.ofNat 0), [(6, (.ofNat 1))]), ((.ofNat 0), [(7, (.ofNat 1))]), ((.ofNat 1), []), ((.ofNat 1), [(1, (.ofNat 1))])])], [], [], 0, false)
theorem ru_do5b_ok : RuOk ru_do5b := by
  refine ⟨by decide, fun ρ hp hf => ?_⟩
  have h1 : w201 (ρ 0) (4 * ρ 1) 5 := by
    have q : w201 (0 + (1 * ρ 0 + 0)) (0 + (4 * ρ 1 + 0)) (5 + 0) := hp _ (List.mem_cons_of_mem _ List.mem_cons_self)
    simpa only [Int.zero_add, Int.add_zero, Int.one_mul] using q
  have h2 : w201 (ρ 0) (1 + 4 * ρ 1) (ρ 8) := by
    have q : w201 (0 + (1 * ρ 0 + 0)) (1 + (4 * ρ 1 + 0)) (0 + (1 * ρ 8 + 0)) := hp _ (List.mem_cons_of_mem _ (List.mem_cons_of_mem _ List.mem_cons_self))
    simpa only [Int.zero_add, Int.add_zero, Int.one_mul] using q
  have h3 : w201 (ρ 0) (2 + 4 * ρ 1) (ρ 9) := by
    have q : w201 (0 + (1 * ρ 0 + 0)) (2 + (4 * ρ 1 + 0)) (0 + (1 * ρ 9 + 0)) := hp _ (List.mem_cons_of_mem _ (List.mem_cons_of_mem _ (List.mem_cons_of_mem _ List.mem_cons_self)))
    simpa only [Int.zero_add, Int.add_zero, Int.one_mul] using q
  have h4 : w201 (ρ 0) (3 + 4 * ρ 1) (ρ 10) := by
    have q : w201 (0 + (1 * ρ 0 + 0)) (3 + (4 * ρ 1 + 0)) (0 + (1 * ρ 10 + 0)) := hp _ (List.mem_cons_of_mem _ (List.mem_cons_of_mem _ (List.mem_cons_of_mem _ (List.mem_cons_of_mem _ List.mem_cons_self))))
    simpa only [Int.zero_add, Int.add_zero, Int.one_mul] using q
  have h5 : w201 (ρ 2) (12 * ρ 3 + ρ 9) (ρ 11) := by
    have q : w201 (0 + (1 * ρ 2 + 0)) (0 + (12 * ρ 3 + (1 * ρ 9 + 0))) (0 + (1 * ρ 11 + 0)) := hp _ (List.mem_cons_of_mem _ (List.mem_cons_of_mem _ (List.mem_cons_of_mem _ (List.mem_cons_of_mem _ (List.mem_cons_of_mem _ List.mem_cons_self)))))
    simpa only [Int.zero_add, Int.add_zero, Int.one_mul] using q
  have h6 : w201 (ρ 2) (12 * ρ 3 + ρ 10) (ρ 12) := by
    have q : w201 (0 + (1 * ρ 2 + 0)) (0 + (12 * ρ 3 + (1 * ρ 10 + 0))) (0 + (1 * ρ 12 + 0)) := hp _ (List.mem_cons_of_mem _ (List.mem_cons_of_mem _ (List.mem_cons_of_mem _ (List.mem_cons_of_mem _ (List.mem_cons_of_mem _ (List.mem_cons_of_mem _ List.mem_cons_self))))))
    simpa only [Int.zero_add, Int.add_zero, Int.one_mul] using q
  have h7 : w202 (ρ 2) (12 * ρ 3 + ρ 8) (ρ 12) (ρ 13) := by
    have q : w202 (0 + (1 * ρ 2 + 0)) (0 + (12 * ρ 3 + (1 * ρ 8 + 0))) (0 + (1 * ρ 12 + 0)) (0 + (1 * ρ 13 + 0)) := hp _ (List.mem_cons_of_mem _ (List.mem_cons_of_mem _ (List.mem_cons_of_mem _ (List.mem_cons_of_mem _ (List.mem_cons_of_mem _ (List.mem_cons_of_mem _ (List.mem_cons_of_mem _ List.mem_cons_self)))))))
    simpa only [Int.zero_add, Int.add_zero, Int.one_mul] using q
  have f0 : (0 + ((-1) * ρ 11 + (1 * ρ 12 + 0))) ≤ 0 := hf _ List.mem_cons_self
  clear hp hf
  refine ⟨rfl, ρ, agr2.rf, ?_, ?_⟩
  · refine List.forall_mem_cons.mpr ⟨?_, ?_⟩
    · show w210 (0 + (1 * ρ 0 + 0)) (0 + (1 * ρ 1 + 0)) (0 + (1 * ρ 2 + 0)) (0 + (1 * ρ 3 + 0)) (0 + (1 * ρ 4 + 0)) (0 + (1 * ρ 5 + 0)) (0 + (1 * ρ 6 + 0)) (0 + (1 * ρ 7 + 0)) (0 + (1 * ρ 13 + 0)) (0 + (1 * ρ 6 + 0)) (0 + (1 * ρ 7 + 0)) (1 + 0) (1 + (1 * ρ 1 + 0))
      try simp only [Int.zero_add, Int.add_zero, Int.one_mul]
      unfold w201 at h1
      unfold w201 at h2
      unfold w201 at h3
      unfold w201 at h4
      unfold w201 at h5
      unfold w201 at h6
      unfold w202 at h7
      unfold w210 doF
      simp [← h1, ← h2, ← h3, ← h4, ← h5, ← h6, h7.1]
      all_goals first
        | omega
        | (congr 1; split <;> omega)
        | (split <;> first | omega | (simp; omega) | (simp; done) | (simp [Int.add_comm]; done))
    · exact fun _ h => (by cases h)
  · exact fun _ h => (by cases h)
noncomputable def ru_do6a : RU := (14, [(300, [((.ofNat 0), [(0, (.ofNat 1))]), ((.ofNat 0), [(1, (.ofNat 1))]), ((.ofNat 0), [(2, (.ofNat 1))]), ((.ofNat 0), [(3, (.ofNat 1))]), ((.ofNat 0), [(4, (.ofNat 1))]), ((.ofNat 0), [(5, (.ofNat 1))]), ((.ofNat 0), [(6, (.ofNat 1))]), ((.ofNat 0), [(7, (.ofNat 1))])]), (201, [((.ofNat 0), [(0, (.ofNat 1))]), ((.ofNat 0), [(1, (.ofNat 4))]), ((.ofNat 6), [])]), (201, [((.ofNat 0), [(0, (.ofNat 1))]), ((.ofNat 1), [(1, (.ofNat 4))]), ((.ofNat 0), [(8, (.ofNat 1))])]), (201, [((.ofNat 0), [(0, (.ofNat 1))]), ((.ofNat 2), [(1, (.ofNat 4))]), ((.ofNat 0), [(9, (.ofNat 1))])]), (201, [((.ofNat 0), [(0, (.ofNat 1))]), ((.ofNat 3), [(1, (.ofNat 4))]), ((.ofNat 0), [(10, (.ofNat 1))])]), (201, [((.ofNat 0), [(2, (.ofNat 1))]), ((.ofNat 0), [(3, (.ofNat 12)), (9, (.ofNat 1))]), ((.ofNat 0), [(11, (.ofNat 1))])]), (201, [((.ofNat 0), [(2, (.ofNat 1))]), ((.ofNat 0), [(3, (.ofNat 12)), (10, (.ofNat 1))]), ((.ofNat 0), [(12, (.ofNat 1))])]), (202, [((.ofNat 0), [(2, (.ofNat 1))]), ((.ofNat 0), [(3, (.ofNat 12)), (8, (.ofNat 1))]), ((.ofNat 0), [(11, (.ofNat 1))]), ((.ofNat 0), [(13, (.ofNat 1))])])], [((.ofNat 0), [(11, (.negSucc 0)), (12, (.ofNat 1))])], [(210, [((.ofNat 0), [(0, (.ofNat 1))]), ((.ofNat 0), [(1, (.ofNat 1))]), ((.ofNat 0), [(2, (.ofNat 1))]), ((.ofNat 0), [(3, (.ofNat 1))]), ((.ofNat 0), [(4, (.ofNat 1))]), ((.ofNat 0), [(5, (.ofNat 1))]), ((.ofNat 0), [(6, (.ofNat 1))]), ((.ofNat 0), [(7, (.ofNat 1))]), ((.ofNat 0), [(13, (.ofNat 1))]), ((.ofNat 0), [(6, (.ofNat 1))]), ((.ofNat 0), [(7, (.ofNat 1))]), ((.ofNat 1), []), ((.ofNat 1), [(1, (.ofNat 1))])])], [], [], 0, false)
theorem ru_do6a_ok : RuOk ru_do6a := by
  refine ⟨by decide, fun ρ hp hf => ?_⟩
  have h1 : w201 (ρ 0) (4 * ρ 1) 6 := by
    have q : w201 (0 + (1 * ρ 0 + 0)) (0 + (4 * ρ 1 + 0)) (6 + 0) := hp _ (List.mem_cons_of_mem _ List.mem_cons_self)
    simpa only [Int.zero_add, Int.add_zero, Int.one_mul] using q
  have h2 : w201 (ρ 0) (1 + 4 * ρ 1) (ρ 8) := by
    have q : w201 (0 + (1 * ρ 0 + 0)) (1 + (4 * ρ 1 + 0)) (0 + (1 * ρ 8 + 0)) := hp _ (List.mem_cons_of_mem _ (List.mem_cons_of_mem _ List.mem_cons_self))
    simpa only [Int.zero_add, Int.add_zero, Int.one_mul] using q
  have h3 : w201 (ρ 0) (2 + 4 * ρ 1) (ρ 9) := by
    have q : w201 (0 + (1 * ρ 0 + 0)) (2 + (4 * ρ 1 + 0)) (0 + (1 * ρ 9 + 0)) := hp _ (List.mem_cons_of_mem _ (List.mem_cons_of_mem _ (List.mem_cons_of_mem _ List.mem_cons_self)))
    simpa only [Int.zero_add, Int.add_zero, Int.one_mul] using q
  have h4 : w201 (ρ 0) (3 + 4 * ρ 1) (ρ 10) := by
    have q : w201 (0 + (1 * ρ 0 + 0)) (3 + (4 * ρ 1 + 0)) (0 + (1 * ρ 10 + 0)) := hp _ (List.mem_cons_of_mem _ (List.mem_cons_of_mem _ (List.mem_cons_of_mem _ (List.mem_cons_of_mem _ List.mem_cons_self))))
    simpa only [Int.zero_add, Int.add_zero, Int.one_mul] using q
  have h5 : w201 (ρ 2) (12 * ρ 3 + ρ 9) (ρ 11) := by
    have q : w201 (0 + (1 * ρ 2 + 0)) (0 + (12 * ρ 3 + (1 * ρ 9 + 0))) (0 + (1 * ρ 11 + 0)) := hp _ (List.mem_cons_of_mem _ (List.mem_cons_of_mem _ (List.mem_cons_of_mem _ (List.mem_cons_of_mem _ (List.mem_cons_of_mem _ List.mem_cons_self)))))
    simpa only [Int.zero_add, Int.add_zero, Int.one_mul] using q
  have h6 : w201 (ρ 2) (12 * ρ 3 + ρ 10) (ρ 12) := by
    have q : w201 (0 + (1 * ρ 2 + 0)) (0 + (12 * ρ 3 + (1 * ρ 10 + 0))) (0 + (1 * ρ 12 + 0)) := hp _ (List.mem_cons_of_mem _ (List.mem_cons_of_mem _ (List.mem_cons_of_mem _ (List.mem_cons_of_mem _ (List.mem_cons_of_mem _ (List.mem_cons_of_mem _ List.mem_cons_self))))))
    simpa only [Int.zero_add, Int.add_zero, Int.one_mul] using q
  have h7 : w202 (ρ 2) (12 * ρ 3 + ρ 8) (ρ 11) (ρ 13) := by
    have q : w202 (0 + (1 * ρ 2 + 0)) (0 + (12 * ρ 3 + (1 * ρ 8 + 0))) (0 + (1 * ρ 11 + 0)) (0 + (1 * ρ 13 + 0)) := hp _ (List.mem_cons_of_mem _ (List.mem_cons_of_mem _ (List.mem_cons_of_mem _ (List.mem_cons_of_mem _ (List.mem_cons_of_mem _ (List.mem_cons_of_mem _ (List.mem_cons_of_mem _ List.mem_cons_self)))))))
    simpa only [Int.zero_add, Int.add_zero, Int.one_mul] using q
  have f0 : (0 + ((-1) * ρ 11 + (1 * ρ 12 + 0))) ≤ 0 := hf _ List.mem_cons_self
  clear hp hf
  refine ⟨rfl, ρ, agr2.rf, ?_, ?_⟩
  · refine List.forall_mem_cons.mpr ⟨?_, ?_⟩
    · show w210 (0 + (1 * ρ 0 + 0)) (0 + (1 * ρ 1 + 0)) (0 + (1 * ρ 2 + 0)) (0 + (1 * ρ 3 + 0)) (0 + (1 * ρ 4 + 0)) (0 + (1 * ρ 5 + 0)) (0 + (1 * ρ 6 + 0)) (0 + (1 * ρ 7 + 0)) (0 + (1 * ρ 13 + 0)) (0 + (1 * ρ 6 + 0)) (0 + (1 * ρ 7 + 0)) (1 + 0) (1 + (1 * ρ 1 + 0))
      try simp only [Int.zero_add, Int.add_zero, Int.one_mul]
      unfold w201 at h1
      unfold w201 at h2
      unfold w201 at h3
      unfold w201 at h4
      unfold w201 at h5
      unfold w201 at h6
      unfold w202 at h7
      unfold w210 doF
      simp [← h1, ← h2, ← h3, ← h4, ← h5, ← h6, h7.1]
      all_goals first
        | omega
        | (congr 1; split <;> omega)
        | (split <;> first | omega | (simp; omega) | (simp; done) | (simp [Int.add_comm]; done))
    · exact fun _ h => (by cases h)
  · exact fun _ h => (by cases h)
noncomputable def ru_do6b : RU := (14, [(300, [((.ofNat 0), [(0, (.ofNat 1))]), ((.ofNat 0), [(1, (.ofNat 1))]), ((.ofNat 0), [(2, (.ofNat 1))]), ((.ofNat 0), [(3, (.ofNat 1))]), ((.ofNat 0), [(4, (.ofNat 1))]), ((.ofNat 0), [(5, (.ofNat 1))]), ((.ofNat 0), [(6, (.ofNat 1))]), ((.ofNat 0), [(7, (.ofNat 1))])]), (201, [((.ofNat 0), [(0, (.ofNat 1))]), ((.ofNat 0), [(1, (.ofNat 4))]), ((.ofNat 6), [])]), (201, [((.ofNat 0), [(0, (.ofNat 1))]), ((.ofNat 1), [(1, (.ofNat 4))]), ((.ofNat 0), [(8, (.ofNat 1))])]), (201, [((.ofNat 0), [(0, (.ofNat 1))]), ((.ofNat 2), [(1, (.ofNat 4))]), ((.ofNat 0), [(9, (.ofNat 1))])]), (201, [((.ofNat 0), [(0, (.ofNat 1))]), ((.ofNat 3), [(1, (.ofNat 4))]), ((.ofNat 0), [(10, (.ofNat 1))])]), (201, [((.ofNat 0), [(2, (.ofNat 1))]), ((.ofNat 0), [(3, (.ofNat 12)), (9, (.ofNat 1))]), ((.ofNat 0), [(11, (.ofNat 1))])]), (201, [((.ofNat 0), [(2, (.ofNat 1))]), ((.ofNat 0), [(3, (.ofNat 12)), (10, (.ofNat 1))]), ((.ofNat 0), [(12, (.ofNat 1))])]), (202, [((.ofNat 0), [(2, (.ofNat 1))]), ((.ofNat 0), [(3, (.ofNat 12)), (8, (.ofNat 1))]), ((.ofNat 0), [(12, (.ofNat 1))]), ((.ofNat 0), [(13, (.ofNat 1))])])], [((.ofNat 0), [(11, (.ofNat 1)), (12, (.negSucc 0))])], [(210, [((.ofNat 0), [(0, (.ofNat 1))]), ((.ofNat 0), [(1, (.ofNat 1))]), ((.ofNat 0), [(2, (.ofNat 1))]), ((.ofNat 0), [(3, (.ofNat 1))]), ((.ofNat 0), [(4, (.ofNat 1))]), ((.ofNat 0), [(5, (.ofNat 1))]), ((.ofNat 0), [(6, (.ofNat 1))]), ((.ofNat 0), [(7, (.ofNat 1))]), ((.ofNat 0), [(13, (.ofNat 1))]), ((.ofNat 0), [(6, (.ofNat 1))]), ((.ofNat 0), [(7, (.ofNat 1))]), ((.ofNat 1), []), ((.ofNat 1), [(1, (.ofNat 1))])])], [], [], 0, false)
theorem ru_do6b_ok : RuOk ru_do6b := by
  refine ⟨by decide, fun ρ hp hf => ?_⟩
  have h1 : w201 (ρ 0) (4 * ρ 1) 6 := by
    have q : w201 (0 + (1 * ρ 0 + 0)) (0 + (4 * ρ 1 + 0)) (6 + 0) := hp _ (List.mem_cons_of_mem _ List.mem_cons_self)
    simpa only [Int.zero_add, Int.add_zero, Int.one_mul] using q
  have h2 : w201 (ρ 0) (1 + 4 * ρ 1) (ρ 8) := by
    have q : w201 (0 + (1 * ρ 0 + 0)) (1 + (4 * ρ 1 + 0)) (0 + (1 * ρ 8 + 0)) := hp _ (List.mem_cons_of_mem _ (List.mem_cons_of_mem _ List.mem_cons_self))
    simpa only [Int.zero_add, Int.add_zero, Int.one_mul] using q
  have h3 : w201 (ρ 0) (2 + 4 * ρ 1) (ρ 9) := by
    have q : w201 (0 + (1 * ρ 0 + 0)) (2 + (4 * ρ 1 + 0)) (0 + (1 * ρ 9 + 0)) := hp _ (List.mem_cons_of_mem _ (List.mem_cons_of_mem _ (List.mem_cons_of_mem _ List.mem_cons_self)))
    simpa only [Int.zero_add, Int.add_zero, Int.one_mul] using q
  have h4 : w201 (ρ 0) (3 + 4 * ρ 1) (ρ 10) := by
    have q : w201 (0 + (1 * ρ 0 + 0)) (3 + (4 * ρ 1 + 0)) (0 + (1 * ρ 10 + 0)) := hp _ (List.mem_cons_of_mem _ (List.mem_cons_of_mem _ (List.mem_cons_of_mem _ (List.mem_cons_of_mem _ List.mem_cons_self))))
    simpa only [Int.zero_add, Int.add_zero, Int.one_mul] using q
  have h5 : w201 (ρ 2) (12 * ρ 3 + ρ 9) (ρ 11) := by
    have q : w201 (0 + (1 * ρ 2 + 0)) (0 + (12 * ρ 3 + (1 * ρ 9 + 0))) (0 + (1 * ρ 11 + 0)) := hp _ (List.mem_cons_of_mem _ (List.mem_cons_of_mem _ (List.mem_cons_of_mem _ (List.mem_cons_of_mem _ (List.mem_cons_of_mem _ List.mem_cons_self)))))
    simpa only [Int.zero_add, Int.add_zero, Int.one_mul] using q
  have h6 : w201 (ρ 2) (12 * ρ 3 + ρ 10) (ρ 12) := by
    have q : w201 (0 + (1 * ρ 2 + 0)) (0 + (12 * ρ 3 + (1 * ρ 10 + 0))) (0 + (1 * ρ 12 + 0)) := hp _ (List.mem_cons_of_mem _ (List.mem_cons_of_mem _ (List.mem_cons_of_mem _ (List.mem_cons_of_mem _ (List.mem_cons_of_mem _ (List.mem_cons_of_mem _ List.mem_cons_self))))))
    simpa only [Int.zero_add, Int.add_zero, Int.one_mul] using q
  have h7 : w202 (ρ 2) (12 * ρ 3 + ρ 8) (ρ 12) (ρ 13) := by
    have q : w202 (0 + (1 * ρ 2 + 0)) (0 + (12 * ρ 3 + (1 * ρ 8 + 0))) (0 + (1 * ρ 12 + 0)) (0 + (1 * ρ 13 + 0)) := hp _ (List.mem_cons_of_mem _ (List.mem_cons_of_mem _ (List.mem_cons_of_mem _ (List.mem_cons_of_mem _ (List.mem_cons_of_mem _ (List.mem_cons_of_mem _ (List.mem_cons_of_mem _ List.mem_cons_self)))))))
    simpa only [Int.zero_add, Int.add_zero, Int.one_mul] using q
  have f0 : (0 + (1 * ρ 11 + ((-1) * ρ 12 + 0))) ≤ 0 := hf _ List.mem_cons_self
  clear hp hf
  refine ⟨rfl, ρ, agr2.rf, ?_, ?_⟩
  · refine List.forall_mem_cons.mpr ⟨?_, ?_⟩
    · show w210 (0 + (1 * ρ 0 + 0)) (0 + (1 * ρ 1 + 0)) (0 + (1 * ρ 2 + 0)) (0 + (1 * ρ 3 + 0)) (0 + (1 * ρ 4 + 0)) (0 + (1 * ρ 5 + 0)) (0 + (1 * ρ 6 + 0)) (0 + (1 * ρ 7 + 0)) (0 + (1 * ρ 13 + 0)) (0 + (1 * ρ 6 + 0)) (0 + (1 * ρ 7 + 0)) (1 + 0) (1 + (1 * ρ 1 + 0))
      try simp only [Int.zero_add, Int.add_zero, Int.one_mul]
      unfold w201 at h1
      unfold w201 at h2
      unfold w201 at h3
      unfold w201 at h4
      unfold w201 at h5
      unfold w201 at h6
      unfold w202 at h7
      unfold w210 doF
      simp [← h1, ← h2, ← h3, ← h4, ← h5, ← h6, h7.1]
      all_goals first
        | omega
        | (congr 1; split <;> omega)
        | (split <;> first | omega | (simp; omega) | (simp; done) | (simp [Int.add_comm]; done))
    · exact fun _ h => (by cases h)
  · exact fun _ h => (by cases h)
noncomputable def ru_do7a : RU := (11, [(300, [((.ofNat 0), [(0, (.ofNat 1))]), ((.ofNat 0), [(1, (.ofNat 1))]), ((.ofNat 0), [(2, (.ofNat 1))]), ((.ofNat 0), [(3, (.ofNat 1))]), ((.ofNat 0), [(4, (.ofNat 1))]), ((.ofNat 0), [(5, (.ofNat 1))]), ((.ofNat 0), [(6, (.ofNat 1))]), ((.ofNat 0), [(7, (.ofNat 1))])]), (201, [((.ofNat 0), [(0, (.ofNat 1))]), ((.ofNat 0), [(1, (.ofNat 4))]), ((.ofNat 7), [])]), (201, [((.ofNat 0), [(0, (.ofNat 1))]), ((.ofNat 1), [(1, (.ofNat 4))]), ((.ofNat 0), [(8, (.ofNat 1))])]), (201, [((.ofNat 0), [(0, (.ofNat 1))]), ((.ofNat 2), [(1, (.ofNat 4))]), ((.ofNat 0), [(9, (.ofNat 1))])]), (201, [((.ofNat 0), [(2, (.ofNat 1))]), ((.ofNat 0), [(3, (.ofNat 12)), (8, (.ofNat 1))]), ((.ofNat 0), [(10, (.ofNat 1))])])], [((.ofNat 1), [(10, (.negSucc 0))])], [(210, [((.ofNat 0), [(0, (.ofNat 1))]), ((.ofNat 0), [(1, (.ofNat 1))]), ((.ofNat 0), [(2, (.ofNat 1))]), ((.ofNat 0), [(3, (.ofNat 1))]), ((.ofNat 0), [(4, (.ofNat 1))]), ((.ofNat 0), [(5, (.ofNat 1))]), ((.ofNat 0), [(6, (.ofNat 1))]), ((.ofNat 0), [(7, (.ofNat 1))]), ((.ofNat 0), [(2, (.ofNat 1))]), ((.ofNat 0), [(6, (.ofNat 1))]), ((.ofNat 0), [(7, (.ofNat 1))]), ((.ofNat 1), []), ((.ofNat 1), [(1, (.ofNat 1)), (9, (.ofNat 1))])])], [], [], 0, false)
theorem ru_do7a_ok : RuOk ru_do7a := by
  refine ⟨by decide, fun ρ hp hf => ?_⟩
  have h1 : w201 (ρ 0) (4 * ρ 1) 7 := by
    have q : w201 (0 + (1 * ρ 0 + 0)) (0 + (4 * ρ 1 + 0)) (7 + 0) := hp _ (List.mem_cons_of_mem _ List.mem_cons_self)
    simpa only [Int.zero_add, Int.add_zero, Int.one_mul] using q
  have h2 : w201 (ρ 0) (1 + 4 * ρ 1) (ρ 8) := by
    have q : w201 (0 + (1 * ρ 0 + 0)) (1 + (4 * ρ 1 + 0)) (0 + (1 * ρ 8 + 0)) := hp _ (List.mem_cons_of_mem _ (List.mem_cons_of_mem _ List.mem_cons_self))
    simpa only [Int.zero_add, Int.add_zero, Int.one_mul] using q
  have h3 : w201 (ρ 0) (2 + 4 * ρ 1) (ρ 9) := by
    have q : w201 (0 + (1 * ρ 0 + 0)) (2 + (4 * ρ 1 + 0)) (0 + (1 * ρ 9 + 0)) := hp _ (List.mem_cons_of_mem _ (List.mem_cons_of_mem _ (List.mem_cons_of_mem _ List.mem_cons_self)))
    simpa only [Int.zero_add, Int.add_zero, Int.one_mul] using q
  have h4 : w201 (ρ 2) (12 * ρ 3 + ρ 8) (ρ 10) := by
    have q : w201 (0 + (1 * ρ 2 + 0)) (0 + (12 * ρ 3 + (1 * ρ 8 + 0))) (0 + (1 * ρ 10 + 0)) := hp _ (List.mem_cons_of_mem _ (List.mem_cons_of_mem _ (List.mem_cons_of_mem _ (List.mem_cons_of_mem _ List.mem_cons_self))))
    simpa only [Int.zero_add, Int.add_zero, Int.one_mul] using q
  have f0 : (1 + ((-1) * ρ 10 + 0)) ≤ 0 := hf _ List.mem_cons_self
  clear hp hf
  refine ⟨rfl, ρ, agr2.rf, ?_, ?_⟩
  · refine List.forall_mem_cons.mpr ⟨?_, ?_⟩
    · show w210 (0 + (1 * ρ 0 + 0)) (0 + (1 * ρ 1 + 0)) (0 + (1 * ρ 2 + 0)) (0 + (1 * ρ 3 + 0)) (0 + (1 * ρ 4 + 0)) (0 + (1 * ρ 5 + 0)) (0 + (1 * ρ 6 + 0)) (0 + (1 * ρ 7 + 0)) (0 + (1 * ρ 2 + 0)) (0 + (1 * ρ 6 + 0)) (0 + (1 * ρ 7 + 0)) (1 + 0) (1 + (1 * ρ 1 + (1 * ρ 9 + 0)))
      try simp only [Int.zero_add, Int.add_zero, Int.one_mul]
      unfold w201 at h1
      unfold w201 at h2
      unfold w201 at h3
      unfold w201 at h4
      unfold w210 doF
      simp [← h1, ← h2, ← h3, ← h4]
      all_goals first
        | omega
        | (congr 1; split <;> omega)
        | (split <;> first | omega | (simp; omega) | (simp; done) | (simp [Int.add_comm]; done))
    · exact fun _ h => (by cases h)
  · exact fun _ h => (by cases h)
noncomputable def ru_do7b : RU := (11, [(300, [((.ofNat 0), [(0, (.ofNat 1))]), ((.ofNat 0), [(1, (.ofNat 1))]), ((.ofNat 0), [(2, (.ofNat 1))]), ((.ofNat 0), [(3, (.ofNat 1))]), ((.ofNat 0), [(4, (.ofNat 1))]), ((.ofNat 0), [(5, (.ofNat 1))]), ((.ofNat 0), [(6, (.ofNat 1))]), ((.ofNat 0), [(7, (.ofNat 1))])]), (201, [((.ofNat 0), [(0, (.ofNat 1))]), ((.ofNat 0), [(1, (.ofNat 4))]), ((.ofNat 7), [])]), (201, [((.ofNat 0), [(0, (.ofNat 1))]), ((.ofNat 1), [(1, (.ofNat 4))]), ((.ofNat 0), [(8, (.ofNat 1))])]), (201, [((.ofNat 0), [(0, (.ofNat 1))]), ((.ofNat 2), [(1, (.ofNat 4))]), ((.ofNat 0), [(9, (.ofNat 1))])]), (201, [((.ofNat 0), [(2, (.ofNat 1))]), ((.ofNat 0), [(3, (.ofNat 12)), (8, (.ofNat 1))]), ((.ofNat 0), [(10, (.ofNat 1))])])], [((.ofNat 0), [(10, (.ofNat 1))])], [(210, [((.ofNat 0), [(0, (.ofNat 1))]), ((.ofNat 0), [(1, (.ofNat 1))]), ((.ofNat 0), [(2, (.ofNat 1))]), ((.ofNat 0), [(3, (.ofNat 1))]), ((.ofNat 0), [(4, (.ofNat 1))]), ((.ofNat 0), [(5, (.ofNat 1))]), ((.ofNat 0), [(6, (.ofNat 1))]), ((.ofNat 0), [(7, (.ofNat 1))]), ((.ofNat 0), [(2, (.ofNat 1))]), ((.ofNat 0), [(6, (.ofNat 1))]), ((.ofNat 0), [(7, (.ofNat 1))]), ((.ofNat 1), []), ((.ofNat 1), [(1, (.ofNat 1))])])], [], [], 0, false)
theorem ru_do7b_ok : RuOk ru_do7b := by
  refine ⟨by decide, fun ρ hp hf => ?_⟩
  have h1 : w201 (ρ 0) (4 * ρ 1) 7 := by
    have q : w201 (0 + (1 * ρ 0 + 0)) (0 + (4 * ρ 1 + 0)) (7 + 0) := hp _ (List.mem_cons_of_mem _ List.mem_cons_self)
    simpa only [Int.zero_add, Int.add_zero, Int.one_mul] using q
  have h2 : w201 (ρ 0) (1 + 4 * ρ 1) (ρ 8) := by
    have q : w201 (0 + (1 * ρ 0 + 0)) (1 + (4 * ρ 1 + 0)) (0 + (1 * ρ 8 + 0)) := hp _ (List.mem_cons_of_mem _ (List.mem_cons_of_mem _ List.mem_cons_self))
    simpa only [Int.zero_add, Int.add_zero, Int.one_mul] using q
  have h3 : w201 (ρ 0) (2 + 4 * ρ 1) (ρ 9) := by
    have q : w201 (0 + (1 * ρ 0 + 0)) (2 + (4 * ρ 1 + 0)) (0 + (1 * ρ 9 + 0)) := hp _ (List.mem_cons_of_mem _ (List.mem_cons_of_mem _ (List.mem_cons_of_mem _ List.mem_cons_self)))
    simpa only [Int.zero_add, Int.add_zero, Int.one_mul] using q
  have h4 : w201 (ρ 2) (12 * ρ 3 + ρ 8) (ρ 10) := by
    have q : w201 (0 + (1 * ρ 2 + 0)) (0 + (12 * ρ 3 + (1 * ρ 8 + 0))) (0 + (1 * ρ 10 + 0)) := hp _ (List.mem_cons_of_mem _ (List.mem_cons_of_mem _ (List.mem_cons_of_mem _ (List.mem_cons_of_mem _ List.mem_cons_self))))
    simpa only [Int.zero_add, Int.add_zero, Int.one_mul] using q
  have f0 : (0 + (1 * ρ 10 + 0)) ≤ 0 := hf _ List.mem_cons_self
  clear hp hf
  refine ⟨rfl, ρ, agr2.rf, ?_, ?_⟩
  · refine List.forall_mem_cons.mpr ⟨?_, ?_⟩
    · show w210 (0 + (1 * ρ 0 + 0)) (0 + (1 * ρ 1 + 0)) (0 + (1 * ρ 2 + 0)) (0 + (1 * ρ 3 + 0)) (0 + (1 * ρ 4 + 0)) (0 + (1 * ρ 5 + 0)) (0 + (1 * ρ 6 + 0)) (0 + (1 * ρ 7 + 0)) (0 + (1 * ρ 2 + 0)) (0 + (1 * ρ 6 + 0)) (0 + (1 * ρ 7 + 0)) (1 + 0) (1 + (1 * ρ 1 + 0))
      try simp only [Int.zero_add, Int.add_zero, Int.one_mul]
      unfold w201 at h1
      unfold w201 at h2
      unfold w201 at h3
      unfold w201 at h4
      unfold w210 doF
      simp [← h1, ← h2, ← h3, ← h4]
      all_goals first
        | omega
        | (congr 1; split <;> omega)
        | (split <;> first | omega | (simp; omega) | (simp; done) | (simp [Int.add_comm]; done))
    · exact fun _ h => (by cases h)
  · exact fun _ h => (by cases h)
noncomputable def ru_do8 : RU := (12, [(300, [((.ofNat 0), [(0, (.ofNat 1))]), ((.ofNat 0), [(1, (.ofNat 1))]), ((.ofNat 0), [(2, (.ofNat 1))]), ((.ofNat 0), [(3, (.ofNat 1))]), ((.ofNat 0), [(4, (.ofNat 1))]), ((.ofNat 0), [(5, (.ofNat 1))]), ((.ofNat 0), [(6, (.ofNat 1))]), ((.ofNat 0), [(7, (.ofNat 1))])]), (201, [((.ofNat 0), [(0, (.ofNat 1))]), ((.ofNat 0), [(1, (.ofNat 4))]), ((.ofNat 8), [])]), (201, [((.ofNat 0), [(0, (.ofNat 1))]), ((.ofNat 1), [(1, (.ofNat 4))]), ((.ofNat 0), [(8, (.ofNat 1))])]), (201, [((.ofNat 0), [(0, (.ofNat 1))]), ((.ofNat 2), [(1, (.ofNat 4))]), ((.ofNat 0), [(9, (.ofNat 1))])]), (201, [((.ofNat 0), [(4, (.ofNat 1))]), ((.ofNat 0), [(9, (.ofNat 1))]), ((.ofNat 0), [(10, (.ofNat 1))])]), (202, [((.ofNat 0), [(2, (.ofNat 1))]), ((.ofNat 0), [(3, (.ofNat 12)), (8, (.ofNat 1))]), ((.ofNat 0), [(10, (.ofNat 1))]), ((.ofNat 0), [(11, (.ofNat 1))])])], [], [(210, [((.ofNat 0), [(0, (.ofNat 1))]), ((.ofNat 0), [(1, (.ofNat 1))]), ((.ofNat 0), [(2, (.ofNat 1))]), ((.ofNat 0), [(3, (.ofNat 1))]), ((.ofNat 0), [(4, (.ofNat 1))]), ((.ofNat 0), [(5, (.ofNat 1))]), ((.ofNat 0), [(6, (.ofNat 1))]), ((.ofNat 0), [(7, (.ofNat 1))]), ((.ofNat 0), [(11, (.ofNat 1))]), ((.ofNat 0), [(6, (.ofNat 1))]), ((.ofNat 0), [(7, (.ofNat 1))]), ((.ofNat 1), []), ((.ofNat 1), [(1, (.ofNat 1))])])], [], [], 0, false)
theorem ru_do8_ok : RuOk ru_do8 := by
  refine ⟨by decide, fun ρ hp hf => ?_⟩
  have h1 : w201 (ρ 0) (4 * ρ 1) 8 := by
    have q : w201 (0 + (1 * ρ 0 + 0)) (0 + (4 * ρ 1 + 0)) (8 + 0) := hp _ (List.mem_cons_of_mem _ List.mem_cons_self)
    simpa only [Int.zero_add, Int.add_zero, Int.one_mul] using q
  have h2 : w201 (ρ 0) (1 + 4 * ρ 1) (ρ 8) := by
    have q : w201 (0 + (1 * ρ 0 + 0)) (1 + (4 * ρ 1 + 0)) (0 + (1 * ρ 8 + 0)) := hp _ (List.mem_cons_of_mem _ (List.mem_cons_of_mem _ List.mem_cons_self))
    simpa only [Int.zero_add, Int.add_zero, Int.one_mul] using q
  have h3 : w201 (ρ 0) (2 + 4 * ρ 1) (ρ 9) := by
    have q : w201 (0 + (1 * ρ 0 + 0)) (2 + (4 * ρ 1 + 0)) (0 + (1 * ρ 9 + 0)) := hp _ (List.mem_cons_of_mem _ (List.mem_cons_of_mem _ (List.mem_cons_of_mem _ List.mem_cons_self)))
    simpa only [Int.zero_add, Int.add_zero, Int.one_mul] using q
  have h4 : w201 (ρ 4) (ρ 9) (ρ 10) := by
    have q : w201 (0 + (1 * ρ 4 + 0)) (0 + (1 * ρ 9 + 0)) (0 + (1 * ρ 10 + 0)) := hp _ (List.mem_cons_of_mem _ (List.mem_cons_of_mem _ (List.mem_cons_of_mem _ (List.mem_cons_of_mem _ List.mem_cons_self))))
    simpa only [Int.zero_add, Int.add_zero, Int.one_mul] using q
  have h5 : w202 (ρ 2) (12 * ρ 3 + ρ 8) (ρ 10) (ρ 11) := by
    have q : w202 (0 + (1 * ρ 2 + 0)) (0 + (12 * ρ 3 + (1 * ρ 8 + 0))) (0 + (1 * ρ 10 + 0)) (0 + (1 * ρ 11 + 0)) := hp _ (List.mem_cons_of_mem _ (List.mem_cons_of_mem _ (List.mem_cons_of_mem _ (List.mem_cons_of_mem _ (List.mem_cons_of_mem _ List.mem_cons_self)))))
    simpa only [Int.zero_add, Int.add_zero, Int.one_mul] using q
  clear hp hf
  refine ⟨rfl, ρ, agr2.rf, ?_, ?_⟩
  · refine List.forall_mem_cons.mpr ⟨?_, ?_⟩
    · show w210 (0 + (1 * ρ 0 + 0)) (0 + (1 * ρ 1 + 0)) (0 + (1 * ρ 2 + 0)) (0 + (1 * ρ 3 + 0)) (0 + (1 * ρ 4 + 0)) (0 + (1 * ρ 5 + 0)) (0 + (1 * ρ 6 + 0)) (0 + (1 * ρ 7 + 0)) (0 + (1 * ρ 11 + 0)) (0 + (1 * ρ 6 + 0)) (0 + (1 * ρ 7 + 0)) (1 + 0) (1 + (1 * ρ 1 + 0))
      try simp only [Int.zero_add, Int.add_zero, Int.one_mul]
      unfold w201 at h1
      unfold w201 at h2
      unfold w201 at h3
      unfold w201 at h4
      unfold w202 at h5
      unfold w210 doF
      simp [← h1, ← h2, ← h3, ← h4, h5.1]
    · exact fun _ h => (by cases h)
  · exact fun _ h => (by cases h)
noncomputable def ru_do9 : RU := (14, [(300, [((.ofNat 0), [(0, (.ofNat 1))]), ((.ofNat 0), [(1, (.ofNat 1))]), ((.ofNat 0), [(2, (.ofNat 1))]), ((.ofNat 0), [(3, (.ofNat 1))]), ((.ofNat 0), [(4, (.ofNat 1))]), ((.ofNat 0), [(5, (.ofNat 1))]), ((.ofNat 0), [(6, (.ofNat 1))]), ((.ofNat 0), [(7, (.ofNat 1))])]), (201, [((.ofNat 0), [(0, (.ofNat 1))]), ((.ofNat 0), [(1, (.ofNat 4))]), ((.ofNat 9), [])]), (201, [((.ofNat 0), [(0, (.ofNat 1))]), ((.ofNat 1), [(1, (.ofNat 4))]), ((.ofNat 0), [(8, (.ofNat 1))])]), (201, [((.ofNat 0), [(0, (.ofNat 1))]), ((.ofNat 2), [(1, (.ofNat 4))]), ((.ofNat 0), [(9, (.ofNat 1))])]), (201, [((.ofNat 0), [(5, (.ofNat 1))]), ((.ofNat 1), [(3, (.ofNat 3))]), ((.ofNat 0), [(10, (.ofNat 1))])]), (201, [((.ofNat 0), [(2, (.ofNat 1))]), ((.ofNat 0), [(3, (.ofNat 12)), (8, (.ofNat 1))]), ((.ofNat 0), [(11, (.ofNat 1))])]), (202, [((.ofNat 0), [(6, (.ofNat 1))]), ((.ofNat 0), [(3, (.ofNat 1)), (9, (.ofNat 4))]), ((.ofNat 0), [(11, (.ofNat 1))]), ((.ofNat 0), [(12, (.ofNat 1))])]), (202, [((.ofNat 0), [(7, (.ofNat 1))]), ((.ofNat 0), [(3, (.ofNat 1)), (9, (.ofNat 4))]), ((.ofNat 1), []), ((.ofNat 0), [(13, (.ofNat 1))])])], [((.ofNat 0), [(10, (.ofNat 1))]), ((.ofNat 0), [(10, (.negSucc 0))])], [(210, [((.ofNat 0), [(0, (.ofNat 1))]), ((.ofNat 0), [(1, (.ofNat 1))]), ((.ofNat 0), [(2, (.ofNat 1))]), ((.ofNat 0), [(3, (.ofNat 1))]), ((.ofNat 0), [(4, (.ofNat 1))]), ((.ofNat 0), [(5, (.ofNat 1))]), ((.ofNat 0), [(6, (.ofNat 1))]), ((.ofNat 0), [(7, (.ofNat 1))]), ((.ofNat 0), [(2, (.ofNat 1))]), ((.ofNat 0), [(12, (.ofNat 1))]), ((.ofNat 0), [(13, (.ofNat 1))]), ((.ofNat 1), []), ((.ofNat 1), [(1, (.ofNat 1))])])], [], [], 0, false)
theorem ru_do9_ok : RuOk ru_do9 := by
  refine ⟨by decide, fun ρ hp hf => ?_⟩
  have h1 : w201 (ρ 0) (4 * ρ 1) 9 := by
    have q : w201 (0 + (1 * ρ 0 + 0)) (0 + (4 * ρ 1 + 0)) (9 + 0) := hp _ (List.mem_cons_of_mem _ List.mem_cons_self)
    simpa only [Int.zero_add, Int.add_zero, Int.one_mul] using q
  have h2 : w201 (ρ 0) (1 + 4 * ρ 1) (ρ 8) := by
    have q : w201 (0 + (1 * ρ 0 + 0)) (1 + (4 * ρ 1 + 0)) (0 + (1 * ρ 8 + 0)) := hp _ (List.mem_cons_of_mem _ (List.mem_cons_of_mem _ List.mem_cons_self))
    simpa only [Int.zero_add, Int.add_zero, Int.one_mul] using q
  have h3 : w201 (ρ 0) (2 + 4 * ρ 1) (ρ 9) := by
    have q : w201 (0 + (1 * ρ 0 + 0)) (2 + (4 * ρ 1 + 0)) (0 + (1 * ρ 9 + 0)) := hp _ (List.mem_cons_of_mem _ (List.mem_cons_of_mem _ (List.mem_cons_of_mem _ List.mem_cons_self)))
    simpa only [Int.zero_add, Int.add_zero, Int.one_mul] using q
  have h4 : w201 (ρ 5) (1 + 3 * ρ 3) (ρ 10) := by
    have q : w201 (0 + (1 * ρ 5 + 0)) (1 + (3 * ρ 3 + 0)) (0 + (1 * ρ 10 + 0)) := hp _ (List.mem_cons_of_mem _ (List.mem_cons_of_mem _ (List.mem_cons_of_mem _ (List.mem_cons_of_mem _ List.mem_cons_self))))
    simpa only [Int.zero_add, Int.add_zero, Int.one_mul] using q
  have h5 : w201 (ρ 2) (12 * ρ 3 + ρ 8) (ρ 11) := by
    have q : w201 (0 + (1 * ρ 2 + 0)) (0 + (12 * ρ 3 + (1 * ρ 8 + 0))) (0 + (1 * ρ 11 + 0)) := hp _ (List.mem_cons_of_mem _ (List.mem_cons_of_mem _ (List.mem_cons_of_mem _ (List.mem_cons_of_mem _ (List.mem_cons_of_mem _ List.mem_cons_self)))))
    simpa only [Int.zero_add, Int.add_zero, Int.one_mul] using q
  have h6 : w202 (ρ 6) (ρ 3 + 4 * ρ 9) (ρ 11) (ρ 12) := by
    have q : w202 (0 + (1 * ρ 6 + 0)) (0 + (1 * ρ 3 + (4 * ρ 9 + 0))) (0 + (1 * ρ 11 + 0)) (0 + (1 * ρ 12 + 0)) := hp _ (List.mem_cons_of_mem _ (List.mem_cons_of_mem _ (List.mem_cons_of_mem _ (List.mem_cons_of_mem _ (List.mem_cons_of_mem _ (List.mem_cons_of_mem _ List.mem_cons_self))))))
    simpa only [Int.zero_add, Int.add_zero, Int.one_mul] using q
  have h7 : w202 (ρ 7) (ρ 3 + 4 * ρ 9) 1 (ρ 13) := by
    have q : w202 (0 + (1 * ρ 7 + 0)) (0 + (1 * ρ 3 + (4 * ρ 9 + 0))) (1 + 0) (0 + (1 * ρ 13 + 0)) := hp _ (List.mem_cons_of_mem _ (List.mem_cons_of_mem _ (List.mem_cons_of_mem _ (List.mem_cons_of_mem _ (List.mem_cons_of_mem _ (List.mem_cons_of_mem _ (List.mem_cons_of_mem _ List.mem_cons_self)))))))
    simpa only [Int.zero_add, Int.add_zero, Int.one_mul] using q
  have f0 : (0 + (1 * ρ 10 + 0)) ≤ 0 := hf _ List.mem_cons_self
  have f1 : (0 + ((-1) * ρ 10 + 0)) ≤ 0 := hf _ (List.mem_cons_of_mem _ List.mem_cons_self)
  clear hp hf
  refine ⟨rfl, ρ, agr2.rf, ?_, ?_⟩
  · refine List.forall_mem_cons.mpr ⟨?_, ?_⟩
    · show w210 (0 + (1 * ρ 0 + 0)) (0 + (1 * ρ 1 + 0)) (0 + (1 * ρ 2 + 0)) (0 + (1 * ρ 3 + 0)) (0 + (1 * ρ 4 + 0)) (0 + (1 * ρ 5 + 0)) (0 + (1 * ρ 6 + 0)) (0 + (1 * ρ 7 + 0)) (0 + (1 * ρ 2 + 0)) (0 + (1 * ρ 12 + 0)) (0 + (1 * ρ 13 + 0)) (1 + 0) (1 + (1 * ρ 1 + 0))
      try simp only [Int.zero_add, Int.add_zero, Int.one_mul]
      unfold w201 at h1
      unfold w201 at h2
      unfold w201 at h3
      unfold w201 at h4
      unfold w201 at h5
      unfold w202 at h6
      unfold w202 at h7
      unfold w210 doF
      simp [← h1, ← h2, ← h3, ← h4, ← h5, h6.1, h7.1]
      all_goals first
        | omega
        | (congr 1; split <;> omega)
        | (split <;> first | omega | (simp; omega) | (simp; done) | (simp [Int.add_comm]; done))
    · exact fun _ h => (by cases h)
  · exact fun _ h => (by cases h)
noncomputable def ru_do9m : RU := (11, [(300, [((.ofNat 0), [(0, (.ofNat 1))]), ((.ofNat 0), [(1, (.ofNat 1))]), ((.ofNat 0), [(2, (.ofNat 1))]), ((.ofNat 0), [(3, (.ofNat 1))]), ((.ofNat 0), [(4, (.ofNat 1))]), ((.ofNat 0), [(5, (.ofNat 1))]), ((.ofNat 0), [(6, (.ofNat 1))]), ((.ofNat 0), [(7, (.ofNat 1))])]), (201, [((.ofNat 0), [(0, (.ofNat 1))]), ((.ofNat 0), [(1, (.ofNat 4))]), ((.ofNat 9), [])]), (201, [((.ofNat 0), [(0, (.ofNat 1))]), ((.ofNat 1), [(1, (.ofNat 4))]), ((.ofNat 0), [(8, (.ofNat 1))])]), (201, [((.ofNat 0), [(0, (.ofNat 1))]), ((.ofNat 2), [(1, (.ofNat 4))]), ((.ofNat 0), [(9, (.ofNat 1))])]), (201, [((.ofNat 0), [(5, (.ofNat 1))]), ((.ofNat 1), [(3, (.ofNat 3))]), ((.ofNat 0), [(10, (.ofNat 1))])])], [((.ofNat 1), [(10, (.negSucc 0))])], [(210, [((.ofNat 0), [(0, (.ofNat 1))]), ((.ofNat 0), [(1, (.ofNat 1))]), ((.ofNat 0), [(2, (.ofNat 1))]), ((.ofNat 0), [(3, (.ofNat 1))]), ((.ofNat 0), [(4, (.ofNat 1))]), ((.ofNat 0), [(5, (.ofNat 1))]), ((.ofNat 0), [(6, (.ofNat 1))]), ((.ofNat 0), [(7, (.ofNat 1))]), ((.ofNat 0), [(2, (.ofNat 1))]), ((.ofNat 0), [(6, (.ofNat 1))]), ((.ofNat 0), [(7, (.ofNat 1))]), ((.ofNat 1), []), ((.ofNat 1), [(1, (.ofNat 1))])])], [], [], 0, false)
theorem ru_do9m_ok : RuOk ru_do9m := by
  refine ⟨by decide, fun ρ hp hf => ?_⟩
  have h1 : w201 (ρ 0) (4 * ρ 1) 9 := by
    have q : w201 (0 + (1 * ρ 0 + 0)) (0 + (4 * ρ 1 + 0)) (9 + 0) := hp _ (List.mem_cons_of_mem _ List.mem_cons_self)
    simpa only [Int.zero_add, Int.add_zero, Int.one_mul] using q
  have h2 : w201 (ρ 0) (1 + 4 * ρ 1) (ρ 8) := by
    have q : w201 (0 + (1 * ρ 0 + 0)) (1 + (4 * ρ 1 + 0)) (0 + (1 * ρ 8 + 0)) := hp _ (List.mem_cons_of_mem _ (List.mem_cons_of_mem _ List.mem_cons_self))
    simpa only [Int.zero_add, Int.add_zero, Int.one_mul] using q
  have h3 : w201 (ρ 0) (2 + 4 * ρ 1) (ρ 9) := by
    have q : w201 (0 + (1 * ρ 0 + 0)) (2 + (4 * ρ 1 + 0)) (0 + (1 * ρ 9 + 0)) := hp _ (List.mem_cons_of_mem _ (List.mem_cons_of_mem _ (List.mem_cons_of_mem _ List.mem_cons_self)))
    simpa only [Int.zero_add, Int.add_zero, Int.one_mul] using q
  have h4 : w201 (ρ 5) (1 + 3 * ρ 3) (ρ 10) := by
    have q : w201 (0 + (1 * ρ 5 + 0)) (1 + (3 * ρ 3 + 0)) (0 + (1 * ρ 10 + 0)) := hp _ (List.mem_cons_of_mem _ (List.mem_cons_of_mem _ (List.mem_cons_of_mem _ (List.mem_cons_of_mem _ List.mem_cons_self))))
    simpa only [Int.zero_add, Int.add_zero, Int.one_mul] using q
  have f0 : (1 + ((-1) * ρ 10 + 0)) ≤ 0 := hf _ List.mem_cons_self
  clear hp hf
  refine ⟨rfl, ρ, agr2.rf, ?_, ?_⟩
  · refine List.forall_mem_cons.mpr ⟨?_, ?_⟩
    · show w210 (0 + (1 * ρ 0 + 0)) (0 + (1 * ρ 1 + 0)) (0 + (1 * ρ 2 + 0)) (0 + (1 * ρ 3 + 0)) (0 + (1 * ρ 4 + 0)) (0 + (1 * ρ 5 + 0)) (0 + (1 * ρ 6 + 0)) (0 + (1 * ρ 7 + 0)) (0 + (1 * ρ 2 + 0)) (0 + (1 * ρ 6 + 0)) (0 + (1 * ρ 7 + 0)) (1 + 0) (1 + (1 * ρ 1 + 0))
      try simp only [Int.zero_add, Int.add_zero, Int.one_mul]
      unfold w201 at h1
      unfold w201 at h2
      unfold w201 at h3
      unfold w201 at h4
      unfold w210 doF
      simp [← h1, ← h2, ← h3, ← h4]
      all_goals first
        | omega
        | (congr 1; split <;> omega)
        | (split <;> first | omega | (simp; omega) | (simp; done) | (simp [Int.add_comm]; done))
    · exact fun _ h => (by cases h)
  · exact fun _ h => (by cases h)
noncomputable def ru_do9n : RU := (11, [(300, [((.ofNat 0), [(0, (.ofNat 1))]), ((.ofNat 0), [(1, (.ofNat 1))]), ((.ofNat 0), [(2, (.ofNat 1))]), ((.ofNat 0), [(3, (.ofNat 1))]), ((.ofNat 0), [(4, (.ofNat 1))]), ((.ofNat 0), [(5, (.ofNat 1))]), ((.ofNat 0), [(6, (.ofNat 1))]), ((.ofNat 0), [(7, (.ofNat 1))])]), (201, [((.ofNat 0), [(0, (.ofNat 1))]), ((.ofNat 0), [(1, (.ofNat 4))]), ((.ofNat 9), [])]), (201, [((.ofNat 0), [(0, (.ofNat 1))]), ((.ofNat 1), [(1, (.ofNat 4))]), ((.ofNat 0), [(8, (.ofNat 1))])]), (201, [((.ofNat 0), [(0, (.ofNat 1))]), ((.ofNat 2), [(1, (.ofNat 4))]), ((.ofNat 0), [(9, (.ofNat 1))])]), (201, [((.ofNat 0), [(5, (.ofNat 1))]), ((.ofNat 1), [(3, (.ofNat 3))]), ((.ofNat 0), [(10, (.ofNat 1))])])], [((.ofNat 1), [(10, (.ofNat 1))])], [(210, [((.ofNat 0), [(0, (.ofNat 1))]), ((.ofNat 0), [(1, (.ofNat 1))]), ((.ofNat 0), [(2, (.ofNat 1))]), ((.ofNat 0), [(3, (.ofNat 1))]), ((.ofNat 0), [(4, (.ofNat 1))]), ((.ofNat 0), [(5, (.ofNat 1))]), ((.ofNat 0), [(6, (.ofNat 1))]), ((.ofNat 0), [(7, (.ofNat 1))]), ((.ofNat 0), [(2, (.ofNat 1))]), ((.ofNat 0), [(6, (.ofNat 1))]), ((.ofNat 0), [(7, (.ofNat 1))]), ((.ofNat 1), []), ((.ofNat 1), [(1, (.ofNat 1))])])], [], [], 0, false)
theorem ru_do9n_ok : RuOk ru_do9n := by
  refine ⟨by decide, fun ρ hp hf => ?_⟩
  have h1 : w201 (ρ 0) (4 * ρ 1) 9 := by
    have q : w201 (0 + (1 * ρ 0 + 0)) (0 + (4 * ρ 1 + 0)) (9 + 0) := hp _ (List.mem_cons_of_mem _ List.mem_cons_self)
    simpa only [Int.zero_add, Int.add_zero, Int.one_mul] using q
  have h2 : w201 (ρ 0) (1 + 4 * ρ 1) (ρ 8) := by
    have q : w201 (0 + (1 * ρ 0 + 0)) (1 + (4 * ρ 1 + 0)) (0 + (1 * ρ 8 + 0)) := hp _ (List.mem_cons_of_mem _ (List.mem_cons_of_mem _ List.mem_cons_self))
    simpa only [Int.zero_add, Int.add_zero, Int.one_mul] using q
  have h3 : w201 (ρ 0) (2 + 4 * ρ 1) (ρ 9) := by
    have q : w201 (0 + (1 * ρ 0 + 0)) (2 + (4 * ρ 1 + 0)) (0 + (1 * ρ 9 + 0)) := hp _ (List.mem_cons_of_mem _ (List.mem_cons_of_mem _ (List.mem_cons_of_mem _ List.mem_cons_self)))
    simpa only [Int.zero_add, Int.add_zero, Int.one_mul] using q
  have h4 : w201 (ρ 5) (1 + 3 * ρ 3) (ρ 10) := by
    have q : w201 (0 + (1 * ρ 5 + 0)) (1 + (3 * ρ 3 + 0)) (0 + (1 * ρ 10 + 0)) := hp _ (List.mem_cons_of_mem _ (List.mem_cons_of_mem _ (List.mem_cons_of_mem _ (List.mem_cons_of_mem _ List.mem_cons_self))))
    simpa only [Int.zero_add, Int.add_zero, Int.one_mul] using q
  have f0 : (1 + (1 * ρ 10 + 0)) ≤ 0 := hf _ List.mem_cons_self
  clear hp hf
  refine ⟨rfl, ρ, agr2.rf, ?_, ?_⟩
  · refine List.forall_mem_cons.mpr ⟨?_, ?_⟩
    · show w210 (0 + (1 * ρ 0 + 0)) (0 + (1 * ρ 1 + 0)) (0 + (1 * ρ 2 + 0)) (0 + (1 * ρ 3 + 0)) (0 + (1 * ρ 4 + 0)) (0 + (1 * ρ 5 + 0)) (0 + (1 * ρ 6 + 0)) (0 + (1 * ρ 7 + 0)) (0 + (1 * ρ 2 + 0)) (0 + (1 * ρ 6 + 0)) (0 + (1 * ρ 7 + 0)) (1 + 0) (1 + (1 * ρ 1 + 0))
      try simp only [Int.zero_add, Int.add_zero, Int.one_mul]
      unfold w201 at h1
      unfold w201 at h2
      unfold w201 at h3
      unfold w201 at h4
      unfold w210 doF
      simp [← h1, ← h2, ← h3, ← h4]
      all_goals first
        | omega
        | (congr 1; split <;> omega)
        | (split <;> first | omega | (simp; omega) | (simp; done) | (simp [Int.add_comm]; done))
    · exact fun _ h => (by cases h)
  · exact fun _ h => (by cases h)
noncomputable def ru_do10a : RU := (11, [(300, [((.ofNat 0), [(0, (.ofNat 1))]), ((.ofNat 0), [(1, (.ofNat 1))]), ((.ofNat 0), [(2, (.ofNat 1))]), ((.ofNat 0), [(3, (.ofNat 1))]), ((.ofNat 0), [(4, (.ofNat 1))]), ((.ofNat 0), [(5, (.ofNat 1))]), ((.ofNat 0), [(6, (.ofNat 1))]), ((.ofNat 0), [(7, (.ofNat 1))])]), (201, [((.ofNat 0), [(0, (.ofNat 1))]), ((.ofNat 0), [(1, (.ofNat 4))]), ((.ofNat 10), [])]), (201, [((.ofNat 0), [(0, (.ofNat 1))]), ((.ofNat 1), [(1, (.ofNat 4))]), ((.ofNat 0), [(8, (.ofNat 1))])]), (201, [((.ofNat 0), [(0, (.ofNat 1))]), ((.ofNat 2), [(1, (.ofNat 4))]), ((.ofNat 0), [(9, (.ofNat 1))])]), (201, [((.ofNat 0), [(2, (.ofNat 1))]), ((.ofNat 0), [(3, (.ofNat 12)), (8, (.ofNat 1))]), ((.ofNat 0), [(10, (.ofNat 1))])])], [((.ofNat 1), [(10, (.negSucc 0))])], [(210, [((.ofNat 0), [(0, (.ofNat 1))]), ((.ofNat 0), [(1, (.ofNat 1))]), ((.ofNat 0), [(2, (.ofNat 1))]), ((.ofNat 0), [(3, (.ofNat 1))]), ((.ofNat 0), [(4, (.ofNat 1))]), ((.ofNat 0), [(5, (.ofNat 1))]), ((.ofNat 0), [(6, (.ofNat 1))]), ((.ofNat 0), [(7, (.ofNat 1))]), ((.ofNat 0), [(2, (.ofNat 1))]), ((.ofNat 0), [(6, (.ofNat 1))]), ((.ofNat 0), [(7, (.ofNat 1))]), ((.ofNat 1), []), ((.ofNat 0), [(1, (.ofNat 1)), (9, (.negSucc 0))])])], [], [], 0, false)
theorem ru_do10a_ok : RuOk ru_do10a := by
  refine ⟨by decide, fun ρ hp hf => ?_⟩
  have h1 : w201 (ρ 0) (4 * ρ 1) 10 := by
    have q : w201 (0 + (1 * ρ 0 + 0)) (0 + (4 * ρ 1 + 0)) (10 + 0) := hp _ (List.mem_cons_of_mem _ List.mem_cons_self)
    simpa only [Int.zero_add, Int.add_zero, Int.one_mul] using q
  have h2 : w201 (ρ 0) (1 + 4 * ρ 1) (ρ 8) := by
    have q : w201 (0 + (1 * ρ 0 + 0)) (1 + (4 * ρ 1 + 0)) (0 + (1 * ρ 8 + 0)) := hp _ (List.mem_cons_of_mem _ (List.mem_cons_of_mem _ List.mem_cons_self))
    simpa only [Int.zero_add, Int.add_zero, Int.one_mul] using q
  have h3 : w201 (ρ 0) (2 + 4 * ρ 1) (ρ 9) := by
    have q : w201 (0 + (1 * ρ 0 + 0)) (2 + (4 * ρ 1 + 0)) (0 + (1 * ρ 9 + 0)) := hp _ (List.mem_cons_of_mem _ (List.mem_cons_of_mem _ (List.mem_cons_of_mem _ List.mem_cons_self)))
    simpa only [Int.zero_add, Int.add_zero, Int.one_mul] using q
  have h4 : w201 (ρ 2) (12 * ρ 3 + ρ 8) (ρ 10) := by
    have q : w201 (0 + (1 * ρ 2 + 0)) (0 + (12 * ρ 3 + (1 * ρ 8 + 0))) (0 + (1 * ρ 10 + 0)) := hp _ (List.mem_cons_of_mem _ (List.mem_cons_of_mem _ (List.mem_cons_of_mem _ (List.mem_cons_of_mem _ List.mem_cons_self))))
    simpa only [Int.zero_add, Int.add_zero, Int.one_mul] using q
  have f0 : (1 + ((-1) * ρ 10 + 0)) ≤ 0 := hf _ List.mem_cons_self
  clear hp hf
  refine ⟨rfl, ρ, agr2.rf, ?_, ?_⟩
  · refine List.forall_mem_cons.mpr ⟨?_, ?_⟩
    · show w210 (0 + (1 * ρ 0 + 0)) (0 + (1 * ρ 1 + 0)) (0 + (1 * ρ 2 + 0)) (0 + (1 * ρ 3 + 0)) (0 + (1 * ρ 4 + 0)) (0 + (1 * ρ 5 + 0)) (0 + (1 * ρ 6 + 0)) (0 + (1 * ρ 7 + 0)) (0 + (1 * ρ 2 + 0)) (0 + (1 * ρ 6 + 0)) (0 + (1 * ρ 7 + 0)) (1 + 0) (0 + (1 * ρ 1 + ((-1) * ρ 9 + 0)))
      try simp only [Int.zero_add, Int.add_zero, Int.one_mul]
      unfold w201 at h1
      unfold w201 at h2
      unfold w201 at h3
      unfold w201 at h4
      unfold w210 doF
      simp [← h1, ← h2, ← h3, ← h4]
      all_goals first
        | omega
        | (congr 1; split <;> omega)
        | (split <;> first | omega | (simp; omega) | (simp; done) | (simp [Int.add_comm]; done))
    · exact fun _ h => (by cases h)
  · exact fun _ h => (by cases h)
noncomputable def ru_do10b : RU := (11, [(300, [((.ofNat 0), [(0, (.ofNat 1))]), ((.ofNat 0), [(1, (.ofNat 1))]), ((.ofNat 0), [(2, (.ofNat 1))]), ((.ofNat 0), [(3, (.ofNat 1))]), ((.ofNat 0), [(4, (.ofNat 1))]), ((.ofNat 0), [(5, (.ofNat 1))]), ((.ofNat 0), [(6, (.ofNat 1))]), ((.ofNat 0), [(7, (.ofNat 1))])]), (201, [((.ofNat 0), [(0, (.ofNat 1))]), ((.ofNat 0), [(1, (.ofNat 4))]), ((.ofNat 10), [])]), (201, [((.ofNat 0), [(0, (.ofNat 1))]), ((.ofNat 1), [(1, (.ofNat 4))]), ((.ofNat 0), [(8, (.ofNat 1))])]), (201, [((.ofNat 0), [(0, (.ofNat 1))]), ((.ofNat 2), [(1, (.ofNat 4))]), ((.ofNat 0), [(9, (.ofNat 1))])]), (201, [((.ofNat 0), [(2, (.ofNat 1))]), ((.ofNat 0), [(3, (.ofNat 12)), (8, (.ofNat 1))]), ((.ofNat 0), [(10, (.ofNat 1))])])], [((.ofNat 0), [(10, (.ofNat 1))])], [(210, [((.ofNat 0), [(0, (.ofNat 1))]), ((.ofNat 0), [(1, (.ofNat 1))]), ((.ofNat 0), [(2, (.ofNat 1))]), ((.ofNat 0), [(3, (.ofNat 1))]), ((.ofNat 0), [(4, (.ofNat 1))]), ((.ofNat 0), [(5, (.ofNat 1))]), ((.ofNat 0), [(6, (.ofNat 1))]), ((.ofNat 0), [(7, (.ofNat 1))]), ((.ofNat 0), [(2, (.ofNat 1))]), ((.ofNat 0), [(6, (.ofNat 1))]), ((.ofNat 0), [(7, (.ofNat 1))]), ((.ofNat 1), []), ((.ofNat 1), [(1, (.ofNat 1))])])], [], [], 0, false)
theorem ru_do10b_ok : RuOk ru_do10b := by
  refine ⟨by decide, fun ρ hp hf => ?_⟩
  have h1 : w201 (ρ 0) (4 * ρ 1) 10 := by
    have q : w201 (0 + (1 * ρ 0 + 0)) (0 + (4 * ρ 1 + 0)) (10 + 0) := hp _ (List.mem_cons_of_mem _ List.mem_cons_self)
    simpa only [Int.zero_add, Int.add_zero, Int.one_mul] using q
  have h2 : w201 (ρ 0) (1 + 4 * ρ 1) (ρ 8) := by
    have q : w201 (0 + (1 * ρ 0 + 0)) (1 + (4 * ρ 1 + 0)) (0 + (1 * ρ 8 + 0)) := hp _ (List.mem_cons_of_mem _ (List.mem_cons_of_mem _ List.mem_cons_self))
    simpa only [Int.zero_add, Int.add_zero, Int.one_mul] using q
  have h3 : w201 (ρ 0) (2 + 4 * ρ 1) (ρ 9) := by
    have q : w201 (0 + (1 * ρ 0 + 0)) (2 + (4 * ρ 1 + 0)) (0 + (1 * ρ 9 + 0)) := hp _ (List.mem_cons_of_mem _ (List.mem_cons_of_mem _ (List.mem_cons_of_mem _ List.mem_cons_self)))
    simpa only [Int.zero_add, Int.add_zero, Int.one_mul] using q
  have h4 : w201 (ρ 2) (12 * ρ 3 + ρ 8) (ρ 10) := by
    have q : w201 (0 + (1 * ρ 2 + 0)) (0 + (12 * ρ 3 + (1 * ρ 8 + 0))) (0 + (1 * ρ 10 + 0)) := hp _ (List.mem_cons_of_mem _ (List.mem_cons_of_mem _ (List.mem_cons_of_mem _ (List.mem_cons_of_mem _ List.mem_cons_self))))
    simpa only [Int.zero_add, Int.add_zero, Int.one_mul] using q
  have f0 : (0 + (1 * ρ 10 + 0)) ≤ 0 := hf _ List.mem_cons_self
  clear hp hf
  refine ⟨rfl, ρ, agr2.rf, ?_, ?_⟩
  · refine List.forall_mem_cons.mpr ⟨?_, ?_⟩
    · show w210 (0 + (1 * ρ 0 + 0)) (0 + (1 * ρ 1 + 0)) (0 + (1 * ρ 2 + 0)) (0 + (1 * ρ 3 + 0)) (0 + (1 * ρ 4 + 0)) (0 + (1 * ρ 5 + 0)) (0 + (1 * ρ 6 + 0)) (0 + (1 * ρ 7 + 0)) (0 + (1 * ρ 2 + 0)) (0 + (1 * ρ 6 + 0)) (0 + (1 * ρ 7 + 0)) (1 + 0) (1 + (1 * ρ 1 + 0))
      try simp only [Int.zero_add, Int.add_zero, Int.one_mul]
      unfold w201 at h1
      unfold w201 at h2
      unfold w201 at h3
      unfold w201 at h4
      unfold w210 doF
      simp [← h1, ← h2, ← h3, ← h4]
      all_goals first
        | omega
        | (congr 1; split <;> omega)
        | (split <;> first | omega | (simp; omega) | (simp; done) | (simp [Int.add_comm]; done))
    · exact fun _ h => (by cases h)
  · exact fun _ h => (by cases h)
noncomputable def ru_sok7 : RU := (10, [(216, [((.ofNat 0), [(0, (.ofNat 1))]), ((.ofNat 0), [(1, (.ofNat 1))])]), (300, [((.ofNat 0), [(0, (.ofNat 1))]), ((.ofNat 0), [(2, (.ofNat 1))]), ((.ofNat 0), [(3, (.ofNat 1))]), ((.ofNat 0), [(4, (.ofNat 1))]), ((.ofNat 0), [(5, (.ofNat 1))]), ((.ofNat 0), [(6, (.ofNat 1))]), ((.ofNat 0), [(7, (.ofNat 1))]), ((.ofNat 0), [(8, (.ofNat 1))])]), (201, [((.ofNat 0), [(0, (.ofNat 1))]), ((.ofNat 0), [(2, (.ofNat 4))]), ((.ofNat 7), [])]), (201, [((.ofNat 0), [(0, (.ofNat 1))]), ((.ofNat 2), [(2, (.ofNat 4))]), ((.ofNat 0), [(9, (.ofNat 1))])])], [((.ofNat 0), [(2, (.negSucc 0))]), ((.ofNat 1), [(1, (.negSucc 0)), (2, (.ofNat 1))])], [], [((.ofNat 1), [(9, (.negSucc 0))]), ((.negSucc 19), [(9, (.ofNat 1))])], [], 0, false)
theorem ru_sok7_ok : RuOk ru_sok7 := by
  refine ⟨by decide, fun ρ hp hf => ?_⟩
  have h0 : w216 (ρ 0) (ρ 1) := by
    have q : w216 (0 + (1 * ρ 0 + 0)) (0 + (1 * ρ 1 + 0)) := hp _ List.mem_cons_self
    simpa only [Int.zero_add, Int.add_zero, Int.one_mul] using q
  have h2 : w201 (ρ 0) (4 * ρ 2) 7 := by
    have q : w201 (0 + (1 * ρ 0 + 0)) (0 + (4 * ρ 2 + 0)) (7 + 0) := hp _ (List.mem_cons_of_mem _ (List.mem_cons_of_mem _ List.mem_cons_self))
    simpa only [Int.zero_add, Int.add_zero, Int.one_mul] using q
  have h3 : w201 (ρ 0) (2 + 4 * ρ 2) (ρ 9) := by
    have q : w201 (0 + (1 * ρ 0 + 0)) (2 + (4 * ρ 2 + 0)) (0 + (1 * ρ 9 + 0)) := hp _ (List.mem_cons_of_mem _ (List.mem_cons_of_mem _ (List.mem_cons_of_mem _ List.mem_cons_self)))
    simpa only [Int.zero_add, Int.add_zero, Int.one_mul] using q
  have f0 : (0 + ((-1) * ρ 2 + 0)) ≤ 0 := hf _ List.mem_cons_self
  have f1 : (1 + ((-1) * ρ 1 + (1 * ρ 2 + 0))) ≤ 0 := hf _ (List.mem_cons_of_mem _ List.mem_cons_self)
  clear hp hf
  refine ⟨rfl, ρ, agr2.rf, ?_, ?_⟩
  · exact fun _ h => (by cases h)
  · refine List.forall_mem_cons.mpr ⟨?_, ?_⟩
    · show (1 + ((-1) * ρ 9 + 0)) ≤ 0
      try simp only [Int.zero_add, Int.add_zero, Int.one_mul]
      have q := h0 (ρ 2) (by omega) (by omega) (Or.inl h2.symm)
      unfold w201 at h3
      omega
    · refine List.forall_mem_cons.mpr ⟨?_, ?_⟩
      · show ((-20) + (1 * ρ 9 + 0)) ≤ 0
        try simp only [Int.zero_add, Int.add_zero, Int.one_mul]
        have q := h0 (ρ 2) (by omega) (by omega) (Or.inl h2.symm)
        unfold w201 at h3
        omega
      · exact fun _ h => (by cases h)
noncomputable def ru_sok10 : RU := (10, [(216, [((.ofNat 0), [(0, (.ofNat 1))]), ((.ofNat 0), [(1, (.ofNat 1))])]), (300, [((.ofNat 0), [(0, (.ofNat 1))]), ((.ofNat 0), [(2, (.ofNat 1))]), ((.ofNat 0), [(3, (.ofNat 1))]), ((.ofNat 0), [(4, (.ofNat 1))]), ((.ofNat 0), [(5, (.ofNat 1))]), ((.ofNat 0), [(6, (.ofNat 1))]), ((.ofNat 0), [(7, (.ofNat 1))]), ((.ofNat 0), [(8, (.ofNat 1))])]), (201, [((.ofNat 0), [(0, (.ofNat 1))]), ((.ofNat 0), [(2, (.ofNat 4))]), ((.ofNat 10), [])]), (201, [((.ofNat 0), [(0, (.ofNat 1))]), ((.ofNat 2), [(2, (.ofNat 4))]), ((.ofNat 0), [(9, (.ofNat 1))])])], [((.ofNat 0), [(2, (.negSucc 0))]), ((.ofNat 1), [(1, (.negSucc 0)), (2, (.ofNat 1))])], [], [((.ofNat 1), [(9, (.negSucc 0))]), ((.negSucc 19), [(9, (.ofNat 1))])], [], 0, false)
theorem ru_sok10_ok : RuOk ru_sok10 := by
  refine ⟨by decide, fun ρ hp hf => ?_⟩
  have h0 : w216 (ρ 0) (ρ 1) := by
    have q : w216 (0 + (1 * ρ 0 + 0)) (0 + (1 * ρ 1 + 0)) := hp _ List.mem_cons_self
    simpa only [Int.zero_add, Int.add_zero, Int.one_mul] using q
  have h2 : w201 (ρ 0) (4 * ρ 2) 10 := by
    have q : w201 (0 + (1 * ρ 0 + 0)) (0 + (4 * ρ 2 + 0)) (10 + 0) := hp _ (List.mem_cons_of_mem _ (List.mem_cons_of_mem _ List.mem_cons_self))
    simpa only [Int.zero_add, Int.add_zero, Int.one_mul] using q
  have h3 : w201 (ρ 0) (2 + 4 * ρ 2) (ρ 9) := by
    have q : w201 (0 + (1 * ρ 0 + 0)) (2 + (4 * ρ 2 + 0)) (0 + (1 * ρ 9 + 0)) := hp _ (List.mem_cons_of_mem _ (List.mem_cons_of_mem _ (List.mem_cons_of_mem _ List.mem_cons_self)))
    simpa only [Int.zero_add, Int.add_zero, Int.one_mul] using q
  have f0 : (0 + ((-1) * ρ 2 + 0)) ≤ 0 := hf _ List.mem_cons_self
  have f1 : (1 + ((-1) * ρ 1 + (1 * ρ 2 + 0))) ≤ 0 := hf _ (List.mem_cons_of_mem _ List.mem_cons_self)
  clear hp hf
  refine ⟨rfl, ρ, agr2.rf, ?_, ?_⟩
  · exact fun _ h => (by cases h)
  · refine List.forall_mem_cons.mpr ⟨?_, ?_⟩
    · show (1 + ((-1) * ρ 9 + 0)) ≤ 0
      try simp only [Int.zero_add, Int.add_zero, Int.one_mul]
      have q := h0 (ρ 2) (by omega) (by omega) (Or.inr h2.symm)
      unfold w201 at h3
      omega
    · refine List.forall_mem_cons.mpr ⟨?_, ?_⟩
      · show ((-20) + (1 * ρ 9 + 0)) ≤ 0
        try simp only [Int.zero_add, Int.add_zero, Int.one_mul]
        have q := h0 (ρ 2) (by omega) (by omega) (Or.inr h2.symm)
        unfold w201 at h3
        omega
      · exact fun _ h => (by cases h)
noncomputable def ru_goi0 : RU := (13, [(301, [((.ofNat 0), [(0, (.ofNat 1))]), ((.ofNat 0), [(1, (.ofNat 1))]), ((.ofNat 0), [(2, (.ofNat 1))]), ((.ofNat 0), [(3, (.ofNat 1))]), ((.ofNat 0), [(4, (.ofNat 1))]), ((.ofNat 0), [(5, (.ofNat 1))]), ((.ofNat 0), [(6, (.ofNat 1))]), ((.ofNat 0), [(7, (.ofNat 1))]), ((.ofNat 0), [(8, (.ofNat 1))]), ((.ofNat 0), [(9, (.ofNat 1))]), ((.ofNat 0), [(10, (.ofNat 1))])]), (201, [((.ofNat 0), [(2, (.ofNat 1))]), ((.ofNat 0), [(3, (.ofNat 2))]), ((.ofNat 0), [(11, (.ofNat 1))])]), (201, [((.ofNat 0), [(2, (.ofNat 1))]), ((.ofNat 1), [(3, (.ofNat 2))]), ((.ofNat 0), [(12, (.ofNat 1))])])], [], [(214, [((.ofNat 0), [(0, (.ofNat 1))]), ((.ofNat 0), [(1, (.ofNat 1))]), ((.ofNat 0), [(2, (.ofNat 1))]), ((.ofNat 0), [(3, (.ofNat 1))]), ((.ofNat 0), [(11, (.ofNat 1))]), ((.ofNat 0), [(12, (.ofNat 1))]), ((.ofNat 0), [(5, (.ofNat 1))]), ((.ofNat 0), [(6, (.ofNat 1))]), ((.ofNat 0), [(7, (.ofNat 1))]), ((.ofNat 0), [(8, (.ofNat 1))]), ((.ofNat 0), [(9, (.ofNat 1))]), ((.ofNat 0), [(10, (.ofNat 1))]), ((.ofNat 0), []), ((.ofNat 0), [(8, (.ofNat 1))]), ((.ofNat 0), [(9, (.ofNat 1))]), ((.ofNat 0), [(10, (.ofNat 1))]), ((.ofNat 0), [(11, (.ofNat 1))])])], [], [], 0, false)
theorem ru_goi0_ok : RuOk ru_goi0 := by
  refine ⟨by decide, fun ρ hp hf => ?_⟩
  have h1 : w201 (ρ 2) (2 * ρ 3) (ρ 11) := by
    have q : w201 (0 + (1 * ρ 2 + 0)) (0 + (2 * ρ 3 + 0)) (0 + (1 * ρ 11 + 0)) := hp _ (List.mem_cons_of_mem _ List.mem_cons_self)
    simpa only [Int.zero_add, Int.add_zero, Int.one_mul] using q
  have h2 : w201 (ρ 2) (1 + 2 * ρ 3) (ρ 12) := by
    have q : w201 (0 + (1 * ρ 2 + 0)) (1 + (2 * ρ 3 + 0)) (0 + (1 * ρ 12 + 0)) := hp _ (List.mem_cons_of_mem _ (List.mem_cons_of_mem _ List.mem_cons_self))
    simpa only [Int.zero_add, Int.add_zero, Int.one_mul] using q
  clear hp hf
  refine ⟨rfl, ρ, agr2.rf, ?_, ?_⟩
  · refine List.forall_mem_cons.mpr ⟨?_, ?_⟩
    · show w214 (0 + (1 * ρ 0 + 0)) (0 + (1 * ρ 1 + 0)) (0 + (1 * ρ 2 + 0)) (0 + (1 * ρ 3 + 0)) (0 + (1 * ρ 11 + 0)) (0 + (1 * ρ 12 + 0)) (0 + (1 * ρ 5 + 0)) (0 + (1 * ρ 6 + 0)) (0 + (1 * ρ 7 + 0)) (0 + (1 * ρ 8 + 0)) (0 + (1 * ρ 9 + 0)) (0 + (1 * ρ 10 + 0)) (0 + 0) (0 + (1 * ρ 8 + 0)) (0 + (1 * ρ 9 + 0)) (0 + (1 * ρ 10 + 0)) (0 + (1 * ρ 11 + 0))
      try simp only [Int.zero_add, Int.add_zero, Int.one_mul]
      exact go_0 h1 h2
    · exact fun _ h => (by cases h)
  · exact fun _ h => (by cases h)
noncomputable def ru_goi : RU := (21, [(214, [((.ofNat 0), [(0, (.ofNat 1))]), ((.ofNat 0), [(1, (.ofNat 1))]), ((.ofNat 0), [(2, (.ofNat 1))]), ((.ofNat 0), [(3, (.ofNat 1))]), ((.ofNat 0), [(4, (.ofNat 1))]), ((.ofNat 0), [(5, (.ofNat 1))]), ((.ofNat 0), [(6, (.ofNat 1))]), ((.ofNat 0), [(7, (.ofNat 1))]), ((.ofNat 0), [(8, (.ofNat 1))]), ((.ofNat 0), [(9, (.ofNat 1))]), ((.ofNat 0), [(10, (.ofNat 1))]), ((.ofNat 0), [(11, (.ofNat 1))]), ((.ofNat 0), [(12, (.ofNat 1))]), ((.ofNat 0), [(13, (.ofNat 1))]), ((.ofNat 0), [(14, (.ofNat 1))]), ((.ofNat 0), [(15, (.ofNat 1))]), ((.ofNat 0), [(16, (.ofNat 1))])]), (210, [((.ofNat 0), [(0, (.ofNat 1))]), ((.ofNat 0), [(16, (.ofNat 1))]), ((.ofNat 0), [(13, (.ofNat 1))]), ((.ofNat 0), [(6, (.ofNat 1))]), ((.ofNat 0), [(7, (.ofNat 1))]), ((.ofNat 0), [(8, (.ofNat 1))]), ((.ofNat 0), [(14, (.ofNat 1))]), ((.ofNat 0), [(15, (.ofNat 1))]), ((.ofNat 0), [(17, (.ofNat 1))]), ((.ofNat 0), [(18, (.ofNat 1))]), ((.ofNat 0), [(19, (.ofNat 1))]), ((.ofNat 1), []), ((.ofNat 0), [(20, (.ofNat 1))])])], [((.ofNat 0), [(4, (.ofNat 1)), (16, (.negSucc 0))]), ((.ofNat 1), [(5, (.negSucc 0)), (16, (.ofNat 1))]), ((.ofNat 1), [(1, (.negSucc 0)), (16, (.ofNat 1))])], [(214, [((.ofNat 0), [(0, (.ofNat 1))]), ((.ofNat 0), [(1, (.ofNat 1))]), ((.ofNat 0), [(2, (.ofNat 1))]), ((.ofNat 0), [(3, (.ofNat 1))]), ((.ofNat 0), [(4, (.ofNat 1))]), ((.ofNat 0), [(5, (.ofNat 1))]), ((.ofNat 0), [(6, (.ofNat 1))]), ((.ofNat 0), [(7, (.ofNat 1))]), ((.ofNat 0), [(8, (.ofNat 1))]), ((.ofNat 0), [(9, (.ofNat 1))]), ((.ofNat 0), [(10, (.ofNat 1))]), ((.ofNat 0), [(11, (.ofNat 1))]), ((.ofNat 1), [(12, (.ofNat 1))]), ((.ofNat 0), [(17, (.ofNat 1))]), ((.ofNat 0), [(18, (.ofNat 1))]), ((.ofNat 0), [(19, (.ofNat 1))]), ((.ofNat 0), [(20, (.ofNat 1))])])], [], [0, 1], 0, false)
theorem ru_goi_ok : RuOk ru_goi := by
  refine ⟨by decide, fun ρ hp hf => ?_⟩
  have h0 : w214 (ρ 0) (ρ 1) (ρ 2) (ρ 3) (ρ 4) (ρ 5) (ρ 6) (ρ 7) (ρ 8) (ρ 9) (ρ 10) (ρ 11) (ρ 12) (ρ 13) (ρ 14) (ρ 15) (ρ 16) := by
    have q : w214 (0 + (1 * ρ 0 + 0)) (0 + (1 * ρ 1 + 0)) (0 + (1 * ρ 2 + 0)) (0 + (1 * ρ 3 + 0)) (0 + (1 * ρ 4 + 0)) (0 + (1 * ρ 5 + 0)) (0 + (1 * ρ 6 + 0)) (0 + (1 * ρ 7 + 0)) (0 + (1 * ρ 8 + 0)) (0 + (1 * ρ 9 + 0)) (0 + (1 * ρ 10 + 0)) (0 + (1 * ρ 11 + 0)) (0 + (1 * ρ 12 + 0)) (0 + (1 * ρ 13 + 0)) (0 + (1 * ρ 14 + 0)) (0 + (1 * ρ 15 + 0)) (0 + (1 * ρ 16 + 0)) := hp _ List.mem_cons_self
    simpa only [Int.zero_add, Int.add_zero, Int.one_mul] using q
  have h1 : w210 (ρ 0) (ρ 16) (ρ 13) (ρ 6) (ρ 7) (ρ 8) (ρ 14) (ρ 15) (ρ 17) (ρ 18) (ρ 19) 1 (ρ 20) := by
    have q : w210 (0 + (1 * ρ 0 + 0)) (0 + (1 * ρ 16 + 0)) (0 + (1 * ρ 13 + 0)) (0 + (1 * ρ 6 + 0)) (0 + (1 * ρ 7 + 0)) (0 + (1 * ρ 8 + 0)) (0 + (1 * ρ 14 + 0)) (0 + (1 * ρ 15 + 0)) (0 + (1 * ρ 17 + 0)) (0 + (1 * ρ 18 + 0)) (0 + (1 * ρ 19 + 0)) (1 + 0) (0 + (1 * ρ 20 + 0)) := hp _ (List.mem_cons_of_mem _ List.mem_cons_self)
    simpa only [Int.zero_add, Int.add_zero, Int.one_mul] using q
  have f0 : (0 + (1 * ρ 4 + ((-1) * ρ 16 + 0))) ≤ 0 := hf _ List.mem_cons_self
  have f1 : (1 + ((-1) * ρ 5 + (1 * ρ 16 + 0))) ≤ 0 := hf _ (List.mem_cons_of_mem _ List.mem_cons_self)
  have f2 : (1 + ((-1) * ρ 1 + (1 * ρ 16 + 0))) ≤ 0 := hf _ (List.mem_cons_of_mem _ (List.mem_cons_of_mem _ List.mem_cons_self))
  clear hp hf
  refine ⟨rfl, ρ, agr2.rf, ?_, ?_⟩
  · refine List.forall_mem_cons.mpr ⟨?_, ?_⟩
    · show w214 (0 + (1 * ρ 0 + 0)) (0 + (1 * ρ 1 + 0)) (0 + (1 * ρ 2 + 0)) (0 + (1 * ρ 3 + 0)) (0 + (1 * ρ 4 + 0)) (0 + (1 * ρ 5 + 0)) (0 + (1 * ρ 6 + 0)) (0 + (1 * ρ 7 + 0)) (0 + (1 * ρ 8 + 0)) (0 + (1 * ρ 9 + 0)) (0 + (1 * ρ 10 + 0)) (0 + (1 * ρ 11 + 0)) (1 + (1 * ρ 12 + 0)) (0 + (1 * ρ 17 + 0)) (0 + (1 * ρ 18 + 0)) (0 + (1 * ρ 19 + 0)) (0 + (1 * ρ 20 + 0))
      try simp only [Int.zero_add, Int.add_zero, Int.one_mul]
      exact go_step h0 h1 (by omega)
    · exact fun _ h => (by cases h)
  · exact fun _ h => (by cases h)
noncomputable def ru_goA : RU := (18, [(301, [((.ofNat 0), [(0, (.ofNat 1))]), ((.ofNat 0), [(1, (.ofNat 1))]), ((.ofNat 0), [(2, (.ofNat 1))]), ((.ofNat 0), [(3, (.ofNat 1))]), ((.ofNat 0), [(4, (.ofNat 1))]), ((.ofNat 0), [(5, (.ofNat 1))]), ((.ofNat 0), [(6, (.ofNat 1))]), ((.ofNat 0), [(7, (.ofNat 1))]), ((.ofNat 0), [(8, (.ofNat 1))]), ((.ofNat 0), [(9, (.ofNat 1))]), ((.ofNat 0), [(10, (.ofNat 1))])]), (214, [((.ofNat 0), [(0, (.ofNat 1))]), ((.ofNat 0), [(1, (.ofNat 1))]), ((.ofNat 0), [(2, (.ofNat 1))]), ((.ofNat 0), [(3, (.ofNat 1))]), ((.ofNat 0), [(11, (.ofNat 1))]), ((.ofNat 0), [(12, (.ofNat 1))]), ((.ofNat 0), [(5, (.ofNat 1))]), ((.ofNat 0), [(6, (.ofNat 1))]), ((.ofNat 0), [(7, (.ofNat 1))]), ((.ofNat 0), [(8, (.ofNat 1))]), ((.ofNat 0), [(9, (.ofNat 1))]), ((.ofNat 0), [(10, (.ofNat 1))]), ((.ofNat 0), [(13, (.ofNat 1))]), ((.ofNat 0), [(14, (.ofNat 1))]), ((.ofNat 0), [(15, (.ofNat 1))]), ((.ofNat 0), [(16, (.ofNat 1))]), ((.ofNat 0), [(17, (.ofNat 1))])])], [((.ofNat 1), [(11, (.negSucc 0)), (17, (.ofNat 1))]), ((.ofNat 0), [(4, (.negSucc 0)), (13, (.ofNat 1))])], [(215, [((.ofNat 0), [(0, (.ofNat 1))]), ((.ofNat 0), [(1, (.ofNat 1))]), ((.ofNat 0), [(2, (.ofNat 1))]), ((.ofNat 0), [(3, (.ofNat 1))]), ((.ofNat 0), [(4, (.ofNat 1))]), ((.ofNat 0), [(5, (.ofNat 1))]), ((.ofNat 0), [(6, (.ofNat 1))]), ((.ofNat 0), [(7, (.ofNat 1))]), ((.ofNat 0), [(8, (.ofNat 1))]), ((.ofNat 0), [(9, (.ofNat 1))]), ((.ofNat 0), [(10, (.ofNat 1))]), ((.ofNat 0), [(14, (.ofNat 1))]), ((.ofNat 0), [(15, (.ofNat 1))]), ((.ofNat 0), [(16, (.ofNat 1))]), ((.ofNat 1), [])])], [], [1], 0, false)
theorem ru_goA_ok : RuOk ru_goA := by
  refine ⟨by decide, fun ρ hp hf => ?_⟩
  have h1 : w214 (ρ 0) (ρ 1) (ρ 2) (ρ 3) (ρ 11) (ρ 12) (ρ 5) (ρ 6) (ρ 7) (ρ 8) (ρ 9) (ρ 10) (ρ 13) (ρ 14) (ρ 15) (ρ 16) (ρ 17) := by
    have q : w214 (0 + (1 * ρ 0 + 0)) (0 + (1 * ρ 1 + 0)) (0 + (1 * ρ 2 + 0)) (0 + (1 * ρ 3 + 0)) (0 + (1 * ρ 11 + 0)) (0 + (1 * ρ 12 + 0)) (0 + (1 * ρ 5 + 0)) (0 + (1 * ρ 6 + 0)) (0 + (1 * ρ 7 + 0)) (0 + (1 * ρ 8 + 0)) (0 + (1 * ρ 9 + 0)) (0 + (1 * ρ 10 + 0)) (0 + (1 * ρ 13 + 0)) (0 + (1 * ρ 14 + 0)) (0 + (1 * ρ 15 + 0)) (0 + (1 * ρ 16 + 0)) (0 + (1 * ρ 17 + 0)) := hp _ (List.mem_cons_of_mem _ List.mem_cons_self)
    simpa only [Int.zero_add, Int.add_zero, Int.one_mul] using q
  have f0 : (1 + ((-1) * ρ 11 + (1 * ρ 17 + 0))) ≤ 0 := hf _ List.mem_cons_self
  have f1 : (0 + ((-1) * ρ 4 + (1 * ρ 13 + 0))) ≤ 0 := hf _ (List.mem_cons_of_mem _ List.mem_cons_self)
  clear hp hf
  refine ⟨rfl, ρ, agr2.rf, ?_, ?_⟩
  · refine List.forall_mem_cons.mpr ⟨?_, ?_⟩
    · show w215 (0 + (1 * ρ 0 + 0)) (0 + (1 * ρ 1 + 0)) (0 + (1 * ρ 2 + 0)) (0 + (1 * ρ 3 + 0)) (0 + (1 * ρ 4 + 0)) (0 + (1 * ρ 5 + 0)) (0 + (1 * ρ 6 + 0)) (0 + (1 * ρ 7 + 0)) (0 + (1 * ρ 8 + 0)) (0 + (1 * ρ 9 + 0)) (0 + (1 * ρ 10 + 0)) (0 + (1 * ρ 14 + 0)) (0 + (1 * ρ 15 + 0)) (0 + (1 * ρ 16 + 0)) (1 + 0)
      try simp only [Int.zero_add, Int.add_zero, Int.one_mul]
      exact go_end h1 (by omega) (by omega)
    · exact fun _ h => (by cases h)
  · exact fun _ h => (by cases h)
noncomputable def ru_goB : RU := (18, [(301, [((.ofNat 0), [(0, (.ofNat 1))]), ((.ofNat 0), [(1, (.ofNat 1))]), ((.ofNat 0), [(2, (.ofNat 1))]), ((.ofNat 0), [(3, (.ofNat 1))]), ((.ofNat 0), [(4, (.ofNat 1))]), ((.ofNat 0), [(5, (.ofNat 1))]), ((.ofNat 0), [(6, (.ofNat 1))]), ((.ofNat 0), [(7, (.ofNat 1))]), ((.ofNat 0), [(8, (.ofNat 1))]), ((.ofNat 0), [(9, (.ofNat 1))]), ((.ofNat 0), [(10, (.ofNat 1))])]), (214, [((.ofNat 0), [(0, (.ofNat 1))]), ((.ofNat 0), [(1, (.ofNat 1))]), ((.ofNat 0), [(2, (.ofNat 1))]), ((.ofNat 0), [(3, (.ofNat 1))]), ((.ofNat 0), [(11, (.ofNat 1))]), ((.ofNat 0), [(12, (.ofNat 1))]), ((.ofNat 0), [(5, (.ofNat 1))]), ((.ofNat 0), [(6, (.ofNat 1))]), ((.ofNat 0), [(7, (.ofNat 1))]), ((.ofNat 0), [(8, (.ofNat 1))]), ((.ofNat 0), [(9, (.ofNat 1))]), ((.ofNat 0), [(10, (.ofNat 1))]), ((.ofNat 0), [(13, (.ofNat 1))]), ((.ofNat 0), [(14, (.ofNat 1))]), ((.ofNat 0), [(15, (.ofNat 1))]), ((.ofNat 0), [(16, (.ofNat 1))]), ((.ofNat 0), [(17, (.ofNat 1))])])], [((.ofNat 0), [(12, (.ofNat 1)), (17, (.negSucc 0))]), ((.ofNat 0), [(4, (.negSucc 0)), (13, (.ofNat 1))])], [(215, [((.ofNat 0), [(0, (.ofNat 1))]), ((.ofNat 0), [(1, (.ofNat 1))]), ((.ofNat 0), [(2, (.ofNat 1))]), ((.ofNat 0), [(3, (.ofNat 1))]), ((.ofNat 0), [(4, (.ofNat 1))]), ((.ofNat 0), [(5, (.ofNat 1))]), ((.ofNat 0), [(6, (.ofNat 1))]), ((.ofNat 0), [(7, (.ofNat 1))]), ((.ofNat 0), [(8, (.ofNat 1))]), ((.ofNat 0), [(9, (.ofNat 1))]), ((.ofNat 0), [(10, (.ofNat 1))]), ((.ofNat 0), [(14, (.ofNat 1))]), ((.ofNat 0), [(15, (.ofNat 1))]), ((.ofNat 0), [(16, (.ofNat 1))]), ((.ofNat 1), [])])], [], [1], 0, false)
theorem ru_goB_ok : RuOk ru_goB := by
  refine ⟨by decide, fun ρ hp hf => ?_⟩
  have h1 : w214 (ρ 0) (ρ 1) (ρ 2) (ρ 3) (ρ 11) (ρ 12) (ρ 5) (ρ 6) (ρ 7) (ρ 8) (ρ 9) (ρ 10) (ρ 13) (ρ 14) (ρ 15) (ρ 16) (ρ 17) := by
    have q : w214 (0 + (1 * ρ 0 + 0)) (0 + (1 * ρ 1 + 0)) (0 + (1 * ρ 2 + 0)) (0 + (1 * ρ 3 + 0)) (0 + (1 * ρ 11 + 0)) (0 + (1 * ρ 12 + 0)) (0 + (1 * ρ 5 + 0)) (0 + (1 * ρ 6 + 0)) (0 + (1 * ρ 7 + 0)) (0 + (1 * ρ 8 + 0)) (0 + (1 * ρ 9 + 0)) (0 + (1 * ρ 10 + 0)) (0 + (1 * ρ 13 + 0)) (0 + (1 * ρ 14 + 0)) (0 + (1 * ρ 15 + 0)) (0 + (1 * ρ 16 + 0)) (0 + (1 * ρ 17 + 0)) := hp _ (List.mem_cons_of_mem _ List.mem_cons_self)
    simpa only [Int.zero_add, Int.add_zero, Int.one_mul] using q
  have f0 : (0 + (1 * ρ 12 + ((-1) * ρ 17 + 0))) ≤ 0 := hf _ List.mem_cons_self
  have f1 : (0 + ((-1) * ρ 4 + (1 * ρ 13 + 0))) ≤ 0 := hf _ (List.mem_cons_of_mem _ List.mem_cons_self)
  clear hp hf
  refine ⟨rfl, ρ, agr2.rf, ?_, ?_⟩
  · refine List.forall_mem_cons.mpr ⟨?_, ?_⟩
    · show w215 (0 + (1 * ρ 0 + 0)) (0 + (1 * ρ 1 + 0)) (0 + (1 * ρ 2 + 0)) (0 + (1 * ρ 3 + 0)) (0 + (1 * ρ 4 + 0)) (0 + (1 * ρ 5 + 0)) (0 + (1 * ρ 6 + 0)) (0 + (1 * ρ 7 + 0)) (0 + (1 * ρ 8 + 0)) (0 + (1 * ρ 9 + 0)) (0 + (1 * ρ 10 + 0)) (0 + (1 * ρ 14 + 0)) (0 + (1 * ρ 15 + 0)) (0 + (1 * ρ 16 + 0)) (1 + 0)
      try simp only [Int.zero_add, Int.add_zero, Int.one_mul]
      exact go_end h1 (by omega) (by omega)
    · exact fun _ h => (by cases h)
  · exact fun _ h => (by cases h)
noncomputable def ru_goC : RU := (18, [(301, [((.ofNat 0), [(0, (.ofNat 1))]), ((.ofNat 0), [(1, (.ofNat 1))]), ((.ofNat 0), [(2, (.ofNat 1))]), ((.ofNat 0), [(3, (.ofNat 1))]), ((.ofNat 0), [(4, (.ofNat 1))]), ((.ofNat 0), [(5, (.ofNat 1))]), ((.ofNat 0), [(6, (.ofNat 1))]), ((.ofNat 0), [(7, (.ofNat 1))]), ((.ofNat 0), [(8, (.ofNat 1))]), ((.ofNat 0), [(9, (.ofNat 1))]), ((.ofNat 0), [(10, (.ofNat 1))])]), (214, [((.ofNat 0), [(0, (.ofNat 1))]), ((.ofNat 0), [(1, (.ofNat 1))]), ((.ofNat 0), [(2, (.ofNat 1))]), ((.ofNat 0), [(3, (.ofNat 1))]), ((.ofNat 0), [(11, (.ofNat 1))]), ((.ofNat 0), [(12, (.ofNat 1))]), ((.ofNat 0), [(5, (.ofNat 1))]), ((.ofNat 0), [(6, (.ofNat 1))]), ((.ofNat 0), [(7, (.ofNat 1))]), ((.ofNat 0), [(8, (.ofNat 1))]), ((.ofNat 0), [(9, (.ofNat 1))]), ((.ofNat 0), [(10, (.ofNat 1))]), ((.ofNat 0), [(13, (.ofNat 1))]), ((.ofNat 0), [(14, (.ofNat 1))]), ((.ofNat 0), [(15, (.ofNat 1))]), ((.ofNat 0), [(16, (.ofNat 1))]), ((.ofNat 0), [(17, (.ofNat 1))])])], [((.ofNat 0), [(1, (.ofNat 1)), (17, (.negSucc 0))]), ((.ofNat 0), [(4, (.negSucc 0)), (13, (.ofNat 1))])], [(215, [((.ofNat 0), [(0, (.ofNat 1))]), ((.ofNat 0), [(1, (.ofNat 1))]), ((.ofNat 0), [(2, (.ofNat 1))]), ((.ofNat 0), [(3, (.ofNat 1))]), ((.ofNat 0), [(4, (.ofNat 1))]), ((.ofNat 0), [(5, (.ofNat 1))]), ((.ofNat 0), [(6, (.ofNat 1))]), ((.ofNat 0), [(7, (.ofNat 1))]), ((.ofNat 0), [(8, (.ofNat 1))]), ((.ofNat 0), [(9, (.ofNat 1))]), ((.ofNat 0), [(10, (.ofNat 1))]), ((.ofNat 0), [(14, (.ofNat 1))]), ((.ofNat 0), [(15, (.ofNat 1))]), ((.ofNat 0), [(16, (.ofNat 1))]), ((.ofNat 1), [])])], [], [1], 0, false)
theorem ru_goC_ok : RuOk ru_goC := by
  refine ⟨by decide, fun ρ hp hf => ?_⟩
  have h1 : w214 (ρ 0) (ρ 1) (ρ 2) (ρ 3) (ρ 11) (ρ 12) (ρ 5) (ρ 6) (ρ 7) (ρ 8) (ρ 9) (ρ 10) (ρ 13) (ρ 14) (ρ 15) (ρ 16) (ρ 17) := by
    have q : w214 (0 + (1 * ρ 0 + 0)) (0 + (1 * ρ 1 + 0)) (0 + (1 * ρ 2 + 0)) (0 + (1 * ρ 3 + 0)) (0 + (1 * ρ 11 + 0)) (0 + (1 * ρ 12 + 0)) (0 + (1 * ρ 5 + 0)) (0 + (1 * ρ 6 + 0)) (0 + (1 * ρ 7 + 0)) (0 + (1 * ρ 8 + 0)) (0 + (1 * ρ 9 + 0)) (0 + (1 * ρ 10 + 0)) (0 + (1 * ρ 13 + 0)) (0 + (1 * ρ 14 + 0)) (0 + (1 * ρ 15 + 0)) (0 + (1 * ρ 16 + 0)) (0 + (1 * ρ 17 + 0)) := hp _ (List.mem_cons_of_mem _ List.mem_cons_self)
    simpa only [Int.zero_add, Int.add_zero, Int.one_mul] using q
  have f0 : (0 + (1 * ρ 1 + ((-1) * ρ 17 + 0))) ≤ 0 := hf _ List.mem_cons_self
  have f1 : (0 + ((-1) * ρ 4 + (1 * ρ 13 + 0))) ≤ 0 := hf _ (List.mem_cons_of_mem _ List.mem_cons_self)
  clear hp hf
  refine ⟨rfl, ρ, agr2.rf, ?_, ?_⟩
  · refine List.forall_mem_cons.mpr ⟨?_, ?_⟩
    · show w215 (0 + (1 * ρ 0 + 0)) (0 + (1 * ρ 1 + 0)) (0 + (1 * ρ 2 + 0)) (0 + (1 * ρ 3 + 0)) (0 + (1 * ρ 4 + 0)) (0 + (1 * ρ 5 + 0)) (0 + (1 * ρ 6 + 0)) (0 + (1 * ρ 7 + 0)) (0 + (1 * ρ 8 + 0)) (0 + (1 * ρ 9 + 0)) (0 + (1 * ρ 10 + 0)) (0 + (1 * ρ 14 + 0)) (0 + (1 * ρ 15 + 0)) (0 + (1 * ρ 16 + 0)) (1 + 0)
      try simp only [Int.zero_add, Int.add_zero, Int.one_mul]
      exact go_end h1 (by omega) (by omega)
    · exact fun _ h => (by cases h)
  · exact fun _ h => (by cases h)
noncomputable def ru_goD : RU := (22, [(301, [((.ofNat 0), [(0, (.ofNat 1))]), ((.ofNat 0), [(1, (.ofNat 1))]), ((.ofNat 0), [(2, (.ofNat 1))]), ((.ofNat 0), [(3, (.ofNat 1))]), ((.ofNat 0), [(4, (.ofNat 1))]), ((.ofNat 0), [(5, (.ofNat 1))]), ((.ofNat 0), [(6, (.ofNat 1))]), ((.ofNat 0), [(7, (.ofNat 1))]), ((.ofNat 0), [(8, (.ofNat 1))]), ((.ofNat 0), [(9, (.ofNat 1))]), ((.ofNat 0), [(10, (.ofNat 1))])]), (214, [((.ofNat 0), [(0, (.ofNat 1))]), ((.ofNat 0), [(1, (.ofNat 1))]), ((.ofNat 0), [(2, (.ofNat 1))]), ((.ofNat 0), [(3, (.ofNat 1))]), ((.ofNat 0), [(11, (.ofNat 1))]), ((.ofNat 0), [(12, (.ofNat 1))]), ((.ofNat 0), [(5, (.ofNat 1))]), ((.ofNat 0), [(6, (.ofNat 1))]), ((.ofNat 0), [(7, (.ofNat 1))]), ((.ofNat 0), [(8, (.ofNat 1))]), ((.ofNat 0), [(9, (.ofNat 1))]), ((.ofNat 0), [(10, (.ofNat 1))]), ((.ofNat 0), [(13, (.ofNat 1))]), ((.ofNat 0), [(14, (.ofNat 1))]), ((.ofNat 0), [(15, (.ofNat 1))]), ((.ofNat 0), [(16, (.ofNat 1))]), ((.ofNat 0), [(17, (.ofNat 1))])]), (210, [((.ofNat 0), [(0, (.ofNat 1))]), ((.ofNat 0), [(17, (.ofNat 1))]), ((.ofNat 0), [(14, (.ofNat 1))]), ((.ofNat 0), [(5, (.ofNat 1))]), ((.ofNat 0), [(6, (.ofNat 1))]), ((.ofNat 0), [(7, (.ofNat 1))]), ((.ofNat 0), [(15, (.ofNat 1))]), ((.ofNat 0), [(16, (.ofNat 1))]), ((.ofNat 0), [(18, (.ofNat 1))]), ((.ofNat 0), [(19, (.ofNat 1))]), ((.ofNat 0), [(20, (.ofNat 1))]), ((.ofNat 0), []), ((.ofNat 0), [(21, (.ofNat 1))])])], [((.ofNat 0), [(11, (.ofNat 1)), (17, (.negSucc 0))]), ((.ofNat 1), [(12, (.negSucc 0)), (17, (.ofNat 1))]), ((.ofNat 1), [(1, (.negSucc 0)), (17, (.ofNat 1))]), ((.ofNat 1), [(4, (.negSucc 0)), (13, (.ofNat 1))])], [(215, [((.ofNat 0), [(0, (.ofNat 1))]), ((.ofNat 0), [(1, (.ofNat 1))]), ((.ofNat 0), [(2, (.ofNat 1))]), ((.ofNat 0), [(3, (.ofNat 1))]), ((.ofNat 0), [(4, (.ofNat 1))]), ((.ofNat 0), [(5, (.ofNat 1))]), ((.ofNat 0), [(6, (.ofNat 1))]), ((.ofNat 0), [(7, (.ofNat 1))]), ((.ofNat 0), [(8, (.ofNat 1))]), ((.ofNat 0), [(9, (.ofNat 1))]), ((.ofNat 0), [(10, (.ofNat 1))]), ((.ofNat 0), [(14, (.ofNat 1))]), ((.ofNat 0), [(15, (.ofNat 1))]), ((.ofNat 0), [(16, (.ofNat 1))]), ((.ofNat 0), [])])], [], [1, 2], 0, false)
theorem ru_goD_ok : RuOk ru_goD := by
  refine ⟨by decide, fun ρ hp hf => ?_⟩
  have h1 : w214 (ρ 0) (ρ 1) (ρ 2) (ρ 3) (ρ 11) (ρ 12) (ρ 5) (ρ 6) (ρ 7) (ρ 8) (ρ 9) (ρ 10) (ρ 13) (ρ 14) (ρ 15) (ρ 16) (ρ 17) := by
    have q : w214 (0 + (1 * ρ 0 + 0)) (0 + (1 * ρ 1 + 0)) (0 + (1 * ρ 2 + 0)) (0 + (1 * ρ 3 + 0)) (0 + (1 * ρ 11 + 0)) (0 + (1 * ρ 12 + 0)) (0 + (1 * ρ 5 + 0)) (0 + (1 * ρ 6 + 0)) (0 + (1 * ρ 7 + 0)) (0 + (1 * ρ 8 + 0)) (0 + (1 * ρ 9 + 0)) (0 + (1 * ρ 10 + 0)) (0 + (1 * ρ 13 + 0)) (0 + (1 * ρ 14 + 0)) (0 + (1 * ρ 15 + 0)) (0 + (1 * ρ 16 + 0)) (0 + (1 * ρ 17 + 0)) := hp _ (List.mem_cons_of_mem _ List.mem_cons_self)
    simpa only [Int.zero_add, Int.add_zero, Int.one_mul] using q
  have h2 : w210 (ρ 0) (ρ 17) (ρ 14) (ρ 5) (ρ 6) (ρ 7) (ρ 15) (ρ 16) (ρ 18) (ρ 19) (ρ 20) 0 (ρ 21) := by
    have q : w210 (0 + (1 * ρ 0 + 0)) (0 + (1 * ρ 17 + 0)) (0 + (1 * ρ 14 + 0)) (0 + (1 * ρ 5 + 0)) (0 + (1 * ρ 6 + 0)) (0 + (1 * ρ 7 + 0)) (0 + (1 * ρ 15 + 0)) (0 + (1 * ρ 16 + 0)) (0 + (1 * ρ 18 + 0)) (0 + (1 * ρ 19 + 0)) (0 + (1 * ρ 20 + 0)) (0 + 0) (0 + (1 * ρ 21 + 0)) := hp _ (List.mem_cons_of_mem _ (List.mem_cons_of_mem _ List.mem_cons_self))
    simpa only [Int.zero_add, Int.add_zero, Int.one_mul] using q
  have f0 : (0 + (1 * ρ 11 + ((-1) * ρ 17 + 0))) ≤ 0 := hf _ List.mem_cons_self
  have f1 : (1 + ((-1) * ρ 12 + (1 * ρ 17 + 0))) ≤ 0 := hf _ (List.mem_cons_of_mem _ List.mem_cons_self)
  have f2 : (1 + ((-1) * ρ 1 + (1 * ρ 17 + 0))) ≤ 0 := hf _ (List.mem_cons_of_mem _ (List.mem_cons_of_mem _ List.mem_cons_self))
  have f3 : (1 + ((-1) * ρ 4 + (1 * ρ 13 + 0))) ≤ 0 := hf _ (List.mem_cons_of_mem _ (List.mem_cons_of_mem _ (List.mem_cons_of_mem _ List.mem_cons_self)))
  clear hp hf
  refine ⟨rfl, ρ, agr2.rf, ?_, ?_⟩
  · refine List.forall_mem_cons.mpr ⟨?_, ?_⟩
    · show w215 (0 + (1 * ρ 0 + 0)) (0 + (1 * ρ 1 + 0)) (0 + (1 * ρ 2 + 0)) (0 + (1 * ρ 3 + 0)) (0 + (1 * ρ 4 + 0)) (0 + (1 * ρ 5 + 0)) (0 + (1 * ρ 6 + 0)) (0 + (1 * ρ 7 + 0)) (0 + (1 * ρ 8 + 0)) (0 + (1 * ρ 9 + 0)) (0 + (1 * ρ 10 + 0)) (0 + (1 * ρ 14 + 0)) (0 + (1 * ρ 15 + 0)) (0 + (1 * ρ 16 + 0)) (0 + 0)
      try simp only [Int.zero_add, Int.add_zero, Int.one_mul]
      exact go_fail h1 h2 (by omega) (by omega)
    · exact fun _ h => (by cases h)
  · exact fun _ h => (by cases h)
noncomputable def ru_goE : RU := (18, [(301, [((.ofNat 0), [(0, (.ofNat 1))]), ((.ofNat 0), [(1, (.ofNat 1))]), ((.ofNat 0), [(2, (.ofNat 1))]), ((.ofNat 0), [(3, (.ofNat 1))]), ((.ofNat 0), [(4, (.ofNat 1))]), ((.ofNat 0), [(5, (.ofNat 1))]), ((.ofNat 0), [(6, (.ofNat 1))]), ((.ofNat 0), [(7, (.ofNat 1))]), ((.ofNat 0), [(8, (.ofNat 1))]), ((.ofNat 0), [(9, (.ofNat 1))]), ((.ofNat 0), [(10, (.ofNat 1))])]), (214, [((.ofNat 0), [(0, (.ofNat 1))]), ((.ofNat 0), [(1, (.ofNat 1))]), ((.ofNat 0), [(2, (.ofNat 1))]), ((.ofNat 0), [(3, (.ofNat 1))]), ((.ofNat 0), [(11, (.ofNat 1))]), ((.ofNat 0), [(12, (.ofNat 1))]), ((.ofNat 0), [(5, (.ofNat 1))]), ((.ofNat 0), [(6, (.ofNat 1))]), ((.ofNat 0), [(7, (.ofNat 1))]), ((.ofNat 0), [(8, (.ofNat 1))]), ((.ofNat 0), [(9, (.ofNat 1))]), ((.ofNat 0), [(10, (.ofNat 1))]), ((.ofNat 0), [(13, (.ofNat 1))]), ((.ofNat 0), [(14, (.ofNat 1))]), ((.ofNat 0), [(15, (.ofNat 1))]), ((.ofNat 0), [(16, (.ofNat 1))]), ((.ofNat 0), [(17, (.ofNat 1))])])], [((.ofNat 0), [(11, (.ofNat 1)), (17, (.negSucc 0))]), ((.ofNat 1), [(12, (.negSucc 0)), (17, (.ofNat 1))]), ((.ofNat 1), [(1, (.negSucc 0)), (17, (.ofNat 1))]), ((.ofNat 0), [(4, (.negSucc 0)), (13, (.ofNat 1))]), ((.ofNat 0), [(4, (.ofNat 1)), (13, (.negSucc 0))])], [(215, [((.ofNat 0), [(0, (.ofNat 1))]), ((.ofNat 0), [(1, (.ofNat 1))]), ((.ofNat 0), [(2, (.ofNat 1))]), ((.ofNat 0), [(3, (.ofNat 1))]), ((.ofNat 0), [(4, (.ofNat 1))]), ((.ofNat 0), [(5, (.ofNat 1))]), ((.ofNat 0), [(6, (.ofNat 1))]), ((.ofNat 0), [(7, (.ofNat 1))]), ((.ofNat 0), [(8, (.ofNat 1))]), ((.ofNat 0), [(9, (.ofNat 1))]), ((.ofNat 0), [(10, (.ofNat 1))]), ((.ofNat 0), [(14, (.ofNat 1))]), ((.ofNat 0), [(15, (.ofNat 1))]), ((.ofNat 0), [(16, (.ofNat 1))]), ((.ofNat 0), [])])], [], [1], 0, false)
theorem ru_goE_ok : RuOk ru_goE := by
  refine ⟨by decide, fun ρ hp hf => ?_⟩
  have h1 : w214 (ρ 0) (ρ 1) (ρ 2) (ρ 3) (ρ 11) (ρ 12) (ρ 5) (ρ 6) (ρ 7) (ρ 8) (ρ 9) (ρ 10) (ρ 13) (ρ 14) (ρ 15) (ρ 16) (ρ 17) := by
    have q : w214 (0 + (1 * ρ 0 + 0)) (0 + (1 * ρ 1 + 0)) (0 + (1 * ρ 2 + 0)) (0 + (1 * ρ 3 + 0)) (0 + (1 * ρ 11 + 0)) (0 + (1 * ρ 12 + 0)) (0 + (1 * ρ 5 + 0)) (0 + (1 * ρ 6 + 0)) (0 + (1 * ρ 7 + 0)) (0 + (1 * ρ 8 + 0)) (0 + (1 * ρ 9 + 0)) (0 + (1 * ρ 10 + 0)) (0 + (1 * ρ 13 + 0)) (0 + (1 * ρ 14 + 0)) (0 + (1 * ρ 15 + 0)) (0 + (1 * ρ 16 + 0)) (0 + (1 * ρ 17 + 0)) := hp _ (List.mem_cons_of_mem _ List.mem_cons_self)
    simpa only [Int.zero_add, Int.add_zero, Int.one_mul] using q
  have f0 : (0 + (1 * ρ 11 + ((-1) * ρ 17 + 0))) ≤ 0 := hf _ List.mem_cons_self
  have f1 : (1 + ((-1) * ρ 12 + (1 * ρ 17 + 0))) ≤ 0 := hf _ (List.mem_cons_of_mem _ List.mem_cons_self)
  have f2 : (1 + ((-1) * ρ 1 + (1 * ρ 17 + 0))) ≤ 0 := hf _ (List.mem_cons_of_mem _ (List.mem_cons_of_mem _ List.mem_cons_self))
  have f3 : (0 + ((-1) * ρ 4 + (1 * ρ 13 + 0))) ≤ 0 := hf _ (List.mem_cons_of_mem _ (List.mem_cons_of_mem _ (List.mem_cons_of_mem _ List.mem_cons_self)))
  have f4 : (0 + (1 * ρ 4 + ((-1) * ρ 13 + 0))) ≤ 0 := hf _ (List.mem_cons_of_mem _ (List.mem_cons_of_mem _ (List.mem_cons_of_mem _ (List.mem_cons_of_mem _ List.mem_cons_self))))
  clear hp hf
  refine ⟨rfl, ρ, agr2.rf, ?_, ?_⟩
  · refine List.forall_mem_cons.mpr ⟨?_, ?_⟩
    · show w215 (0 + (1 * ρ 0 + 0)) (0 + (1 * ρ 1 + 0)) (0 + (1 * ρ 2 + 0)) (0 + (1 * ρ 3 + 0)) (0 + (1 * ρ 4 + 0)) (0 + (1 * ρ 5 + 0)) (0 + (1 * ρ 6 + 0)) (0 + (1 * ρ 7 + 0)) (0 + (1 * ρ 8 + 0)) (0 + (1 * ρ 9 + 0)) (0 + (1 * ρ 10 + 0)) (0 + (1 * ρ 14 + 0)) (0 + (1 * ρ 15 + 0)) (0 + (1 * ρ 16 + 0)) (0 + 0)
      try simp only [Int.zero_add, Int.add_zero, Int.one_mul]
      exact go_late h1 (by omega) (by omega)
    · exact fun _ h => (by cases h)
  · exact fun _ h => (by cases h)
noncomputable def ru_nofail : RU := (12, [(210, [((.ofNat 0), [(0, (.ofNat 1))]), ((.ofNat 0), [(1, (.ofNat 1))]), ((.ofNat 0), [(2, (.ofNat 1))]), ((.ofNat 0), [(3, (.ofNat 1))]), ((.ofNat 0), [(4, (.ofNat 1))]), ((.ofNat 0), [(5, (.ofNat 1))]), ((.ofNat 0), [(6, (.ofNat 1))]), ((.ofNat 0), [(7, (.ofNat 1))]), ((.ofNat 0), [(8, (.ofNat 1))]), ((.ofNat 0), [(9, (.ofNat 1))]), ((.ofNat 0), [(10, (.ofNat 1))]), ((.ofNat 1), []), ((.ofNat 0), [(11, (.ofNat 1))])]), (201, [((.ofNat 0), [(0, (.ofNat 1))]), ((.ofNat 0), [(1, (.ofNat 4))]), ((.ofNat 4), [])])], [((.ofNat 1), [(11, (.ofNat 1))]), ((.ofNat 0), [(1, (.negSucc 0))])], [], [], [], 0, true)
theorem ru_nofail_ok : RuOk ru_nofail := by
  refine ⟨by decide, fun ρ hp hf => ?_⟩
  have h0 : w210 (ρ 0) (ρ 1) (ρ 2) (ρ 3) (ρ 4) (ρ 5) (ρ 6) (ρ 7) (ρ 8) (ρ 9) (ρ 10) 1 (ρ 11) := by
    have q : w210 (0 + (1 * ρ 0 + 0)) (0 + (1 * ρ 1 + 0)) (0 + (1 * ρ 2 + 0)) (0 + (1 * ρ 3 + 0)) (0 + (1 * ρ 4 + 0)) (0 + (1 * ρ 5 + 0)) (0 + (1 * ρ 6 + 0)) (0 + (1 * ρ 7 + 0)) (0 + (1 * ρ 8 + 0)) (0 + (1 * ρ 9 + 0)) (0 + (1 * ρ 10 + 0)) (1 + 0) (0 + (1 * ρ 11 + 0)) := hp _ List.mem_cons_self
    simpa only [Int.zero_add, Int.add_zero, Int.one_mul] using q
  have h1 : w201 (ρ 0) (4 * ρ 1) 4 := by
    have q : w201 (0 + (1 * ρ 0 + 0)) (0 + (4 * ρ 1 + 0)) (4 + 0) := hp _ (List.mem_cons_of_mem _ List.mem_cons_self)
    simpa only [Int.zero_add, Int.add_zero, Int.one_mul] using q
  have f0 : (1 + (1 * ρ 11 + 0)) ≤ 0 := hf _ List.mem_cons_self
  have f1 : (0 + ((-1) * ρ 1 + 0)) ≤ 0 := hf _ (List.mem_cons_of_mem _ List.mem_cons_self)
  clear hp hf
  exfalso
  have q := doF_1 h0 h1.symm
  omega
noncomputable def ru_failis : RU := (13, [(210, [((.ofNat 0), [(0, (.ofNat 1))]), ((.ofNat 0), [(1, (.ofNat 1))]), ((.ofNat 0), [(2, (.ofNat 1))]), ((.ofNat 0), [(3, (.ofNat 1))]), ((.ofNat 0), [(4, (.ofNat 1))]), ((.ofNat 0), [(5, (.ofNat 1))]), ((.ofNat 0), [(6, (.ofNat 1))]), ((.ofNat 0), [(7, (.ofNat 1))]), ((.ofNat 0), [(8, (.ofNat 1))]), ((.ofNat 0), [(9, (.ofNat 1))]), ((.ofNat 0), [(10, (.ofNat 1))]), ((.ofNat 0), []), ((.ofNat 0), [(11, (.ofNat 1))])]), (201, [((.ofNat 0), [(0, (.ofNat 1))]), ((.ofNat 0), [(1, (.ofNat 4))]), ((.ofNat 0), [(12, (.ofNat 1))])])], [], [], [((.negSucc 3), [(12, (.ofNat 1))]), ((.ofNat 4), [(12, (.negSucc 0))])], [], 0, false)
theorem ru_failis_ok : RuOk ru_failis := by
  refine ⟨by decide, fun ρ hp hf => ?_⟩
  have h0 : w210 (ρ 0) (ρ 1) (ρ 2) (ρ 3) (ρ 4) (ρ 5) (ρ 6) (ρ 7) (ρ 8) (ρ 9) (ρ 10) 0 (ρ 11) := by
    have q : w210 (0 + (1 * ρ 0 + 0)) (0 + (1 * ρ 1 + 0)) (0 + (1 * ρ 2 + 0)) (0 + (1 * ρ 3 + 0)) (0 + (1 * ρ 4 + 0)) (0 + (1 * ρ 5 + 0)) (0 + (1 * ρ 6 + 0)) (0 + (1 * ρ 7 + 0)) (0 + (1 * ρ 8 + 0)) (0 + (1 * ρ 9 + 0)) (0 + (1 * ρ 10 + 0)) (0 + 0) (0 + (1 * ρ 11 + 0)) := hp _ List.mem_cons_self
    simpa only [Int.zero_add, Int.add_zero, Int.one_mul] using q
  have h1 : w201 (ρ 0) (4 * ρ 1) (ρ 12) := by
    have q : w201 (0 + (1 * ρ 0 + 0)) (0 + (4 * ρ 1 + 0)) (0 + (1 * ρ 12 + 0)) := hp _ (List.mem_cons_of_mem _ List.mem_cons_self)
    simpa only [Int.zero_add, Int.add_zero, Int.one_mul] using q
  clear hp hf
  refine ⟨rfl, ρ, agr2.rf, ?_, ?_⟩
  · exact fun _ h => (by cases h)
  · refine List.forall_mem_cons.mpr ⟨?_, ?_⟩
    · show ((-4) + (1 * ρ 12 + 0)) ≤ 0
      try simp only [Int.zero_add, Int.add_zero, Int.one_mul]
      have q := doF_0 h0
      unfold w201 at h1
      omega
    · refine List.forall_mem_cons.mpr ⟨?_, ?_⟩
      · show (4 + ((-1) * ρ 12 + 0)) ≤ 0
        try simp only [Int.zero_add, Int.add_zero, Int.one_mul]
        have q := doF_0 h0
        unfold w201 at h1
        omega
      · exact fun _ h => (by cases h)
noncomputable def ru_sok0 : RU := (0, [], [], [(216, [((.ofNat 0), []), ((.ofNat 0), [])])], [], [], 0, false)
theorem ru_sok0_ok : RuOk ru_sok0 := by
  refine ⟨by decide, fun ρ hp hf => ?_⟩
  clear hp hf
  refine ⟨rfl, ρ, agr2.rf, ?_, ?_⟩
  · refine List.forall_mem_cons.mpr ⟨?_, ?_⟩
    · show w216 (0 + 0) (0 + 0)
      try simp only [Int.zero_add, Int.add_zero, Int.one_mul]
      unfold w216
      intro i a b
      omega
    · exact fun _ h => (by cases h)
  · exact fun _ h => (by cases h)
