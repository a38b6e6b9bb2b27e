/-! ===== rules, proved (written by wip/vse8/mkrule.py) ===== -/
noncomputable def ru_inb0 : RU := (4, [(230, [((.ofNat 0), [(0, (.ofNat 1))]), ((.ofNat 0), [(1, (.ofNat 1))])]), (200, [((.ofNat 11), []), ((.ofNat 0), [(0, (.ofNat 1))]), ((.ofNat 0), []), ((.ofNat 0), [(2, (.ofNat 1))])]), (200, [((.ofNat 7), []), ((.ofNat 0), [(2, (.ofNat 1))]), ((.ofNat 1), []), ((.ofNat 0), [(3, (.ofNat 1))])])], [], [(201, [((.ofNat 0), [(1, (.ofNat 1))]), ((.ofNat 0), []), ((.ofNat 0), [(3, (.ofNat 1))])])], [], [], 0, false)
theorem ru_inb0_ok : RuOk ru_inb0 := by
  refine ⟨by decide, fun ρ hp hf => ?_⟩
  have h0 : w230 (ρ 0) (ρ 1) := by
    have q : w230 (0 + (1 * ρ 0 + 0)) (0 + (1 * ρ 1 + 0)) := hp _ List.mem_cons_self
    simpa only [Int.zero_add, Int.add_zero, Int.one_mul] using q
  have h1 : w200 11 (ρ 0) 0 (ρ 2) := by
    have q : w200 (11 + 0) (0 + (1 * ρ 0 + 0)) (0 + 0) (0 + (1 * ρ 2 + 0)) := hp _ (List.mem_cons_of_mem _ List.mem_cons_self)
    simpa only [Int.zero_add, Int.add_zero, Int.one_mul] using q
  have h2 : w200 7 (ρ 2) 1 (ρ 3) := by
    have q : w200 (7 + 0) (0 + (1 * ρ 2 + 0)) (1 + 0) (0 + (1 * ρ 3 + 0)) := hp _ (List.mem_cons_of_mem _ (List.mem_cons_of_mem _ List.mem_cons_self))
    simpa only [Int.zero_add, Int.add_zero, Int.one_mul] using q
  clear hp hf
  refine ⟨rfl, ρ, agr2.rf, ?_, ?_⟩
  · refine List.forall_mem_cons.mpr ⟨?_, ?_⟩
    · show w201 (0 + (1 * ρ 1 + 0)) (0 + 0) (0 + (1 * ρ 3 + 0))
      try simp only [Int.zero_add, Int.add_zero, Int.one_mul]
      unfold w201
      exact w230_in 0 h0 (by decide) h1 h2
    · exact fun _ h => (by cases h)
  · exact fun _ h => (by cases h)
noncomputable def ru_inb1 : RU := (4, [(230, [((.ofNat 0), [(0, (.ofNat 1))]), ((.ofNat 0), [(1, (.ofNat 1))])]), (200, [((.ofNat 11), []), ((.ofNat 0), [(0, (.ofNat 1))]), ((.ofNat 1), []), ((.ofNat 0), [(2, (.ofNat 1))])]), (200, [((.ofNat 7), []), ((.ofNat 0), [(2, (.ofNat 1))]), ((.ofNat 1), []), ((.ofNat 0), [(3, (.ofNat 1))])])], [], [(201, [((.ofNat 0), [(1, (.ofNat 1))]), ((.ofNat 1), []), ((.ofNat 0), [(3, (.ofNat 1))])])], [], [], 0, false)
theorem ru_inb1_ok : RuOk ru_inb1 := by
  refine ⟨by decide, fun ρ hp hf => ?_⟩
  have h0 : w230 (ρ 0) (ρ 1) := by
    have q : w230 (0 + (1 * ρ 0 + 0)) (0 + (1 * ρ 1 + 0)) := hp _ List.mem_cons_self
    simpa only [Int.zero_add, Int.add_zero, Int.one_mul] using q
  have h1 : w200 11 (ρ 0) 1 (ρ 2) := by
    have q : w200 (11 + 0) (0 + (1 * ρ 0 + 0)) (1 + 0) (0 + (1 * ρ 2 + 0)) := hp _ (List.mem_cons_of_mem _ List.mem_cons_self)
    simpa only [Int.zero_add, Int.add_zero, Int.one_mul] using q
  have h2 : w200 7 (ρ 2) 1 (ρ 3) := by
    have q : w200 (7 + 0) (0 + (1 * ρ 2 + 0)) (1 + 0) (0 + (1 * ρ 3 + 0)) := hp _ (List.mem_cons_of_mem _ (List.mem_cons_of_mem _ List.mem_cons_self))
    simpa only [Int.zero_add, Int.add_zero, Int.one_mul] using q
  clear hp hf
  refine ⟨rfl, ρ, agr2.rf, ?_, ?_⟩
  · refine List.forall_mem_cons.mpr ⟨?_, ?_⟩
    · show w201 (0 + (1 * ρ 1 + 0)) (1 + 0) (0 + (1 * ρ 3 + 0))
      try simp only [Int.zero_add, Int.add_zero, Int.one_mul]
      unfold w201
      exact w230_in 1 h0 (by decide) h1 h2
    · exact fun _ h => (by cases h)
  · exact fun _ h => (by cases h)
noncomputable def ru_inb2 : RU := (4, [(230, [((.ofNat 0), [(0, (.ofNat 1))]), ((.ofNat 0), [(1, (.ofNat 1))])]), (200, [((.ofNat 11), []), ((.ofNat 0), [(0, (.ofNat 1))]), ((.ofNat 2), []), ((.ofNat 0), [(2, (.ofNat 1))])]), (200, [((.ofNat 7), []), ((.ofNat 0), [(2, (.ofNat 1))]), ((.ofNat 1), []), ((.ofNat 0), [(3, (.ofNat 1))])])], [], [(201, [((.ofNat 0), [(1, (.ofNat 1))]), ((.ofNat 2), []), ((.ofNat 0), [(3, (.ofNat 1))])])], [], [], 0, false)
theorem ru_inb2_ok : RuOk ru_inb2 := by
  refine ⟨by decide, fun ρ hp hf => ?_⟩
  have h0 : w230 (ρ 0) (ρ 1) := by
    have q : w230 (0 + (1 * ρ 0 + 0)) (0 + (1 * ρ 1 + 0)) := hp _ List.mem_cons_self
    simpa only [Int.zero_add, Int.add_zero, Int.one_mul] using q
  have h1 : w200 11 (ρ 0) 2 (ρ 2) := by
    have q : w200 (11 + 0) (0 + (1 * ρ 0 + 0)) (2 + 0) (0 + (1 * ρ 2 + 0)) := hp _ (List.mem_cons_of_mem _ List.mem_cons_self)
    simpa only [Int.zero_add, Int.add_zero, Int.one_mul] using q
  have h2 : w200 7 (ρ 2) 1 (ρ 3) := by
    have q : w200 (7 + 0) (0 + (1 * ρ 2 + 0)) (1 + 0) (0 + (1 * ρ 3 + 0)) := hp _ (List.mem_cons_of_mem _ (List.mem_cons_of_mem _ List.mem_cons_self))
    simpa only [Int.zero_add, Int.add_zero, Int.one_mul] using q
  clear hp hf
  refine ⟨rfl, ρ, agr2.rf, ?_, ?_⟩
  · refine List.forall_mem_cons.mpr ⟨?_, ?_⟩
    · show w201 (0 + (1 * ρ 1 + 0)) (2 + 0) (0 + (1 * ρ 3 + 0))
      try simp only [Int.zero_add, Int.add_zero, Int.one_mul]
      unfold w201
      exact w230_in 2 h0 (by decide) h1 h2
    · exact fun _ h => (by cases h)
  · exact fun _ h => (by cases h)
noncomputable def ru_inb3 : RU := (4, [(230, [((.ofNat 0), [(0, (.ofNat 1))]), ((.ofNat 0), [(1, (.ofNat 1))])]), (200, [((.ofNat 11), []), ((.ofNat 0), [(0, (.ofNat 1))]), ((.ofNat 3), []), ((.ofNat 0), [(2, (.ofNat 1))])]), (200, [((.ofNat 7), []), ((.ofNat 0), [(2, (.ofNat 1))]), ((.ofNat 1), []), ((.ofNat 0), [(3, (.ofNat 1))])])], [], [(201, [((.ofNat 0), [(1, (.ofNat 1))]), ((.ofNat 3), []), ((.ofNat 0), [(3, (.ofNat 1))])])], [], [], 0, false)
theorem ru_inb3_ok : RuOk ru_inb3 := by
  refine ⟨by decide, fun ρ hp hf => ?_⟩
  have h0 : w230 (ρ 0) (ρ 1) := by
    have q : w230 (0 + (1 * ρ 0 + 0)) (0 + (1 * ρ 1 + 0)) := hp _ List.mem_cons_self
    simpa only [Int.zero_add, Int.add_zero, Int.one_mul] using q
  have h1 : w200 11 (ρ 0) 3 (ρ 2) := by
    have q : w200 (11 + 0) (0 + (1 * ρ 0 + 0)) (3 + 0) (0 + (1 * ρ 2 + 0)) := hp _ (List.mem_cons_of_mem _ List.mem_cons_self)
    simpa only [Int.zero_add, Int.add_zero, Int.one_mul] using q
  have h2 : w200 7 (ρ 2) 1 (ρ 3) := by
    have q : w200 (7 + 0) (0 + (1 * ρ 2 + 0)) (1 + 0) (0 + (1 * ρ 3 + 0)) := hp _ (List.mem_cons_of_mem _ (List.mem_cons_of_mem _ List.mem_cons_self))
    simpa only [Int.zero_add, Int.add_zero, Int.one_mul] using q
  clear hp hf
  refine ⟨rfl, ρ, agr2.rf, ?_, ?_⟩
  · refine List.forall_mem_cons.mpr ⟨?_, ?_⟩
    · show w201 (0 + (1 * ρ 1 + 0)) (3 + 0) (0 + (1 * ρ 3 + 0))
      try simp only [Int.zero_add, Int.add_zero, Int.one_mul]
      unfold w201
      exact w230_in 3 h0 (by decide) h1 h2
    · exact fun _ h => (by cases h)
  · exact fun _ h => (by cases h)
noncomputable def ru_mskc0 : RU := (3, [(230, [((.ofNat 0), [(0, (.ofNat 1))]), ((.ofNat 0), [(1, (.ofNat 1))])]), (200, [((.ofNat 7), []), ((.ofNat 0), [(0, (.ofNat 1))]), ((.negSucc 1), []), ((.ofNat 0), [(2, (.ofNat 1))])])], [], [(230, [((.ofNat 0), [(2, (.ofNat 1))]), ((.ofNat 0), [(3, (.ofNat 1))])]), (202, [((.ofNat 0), [(1, (.ofNat 1))]), ((.ofNat 0), []), ((.ofNat 0), []), ((.ofNat 0), [(3, (.ofNat 1))])])], [], [0], 1, false)
theorem ru_mskc0_ok : RuOk ru_mskc0 := by
  refine ⟨by decide, fun ρ hp hf => ?_⟩
  have h0 : w230 (ρ 0) (ρ 1) := by
    have q : w230 (0 + (1 * ρ 0 + 0)) (0 + (1 * ρ 1 + 0)) := hp _ List.mem_cons_self
    simpa only [Int.zero_add, Int.add_zero, Int.one_mul] using q
  have h1 : w200 7 (ρ 0) (-2) (ρ 2) := by
    have q : w200 (7 + 0) (0 + (1 * ρ 0 + 0)) ((-2) + 0) (0 + (1 * ρ 2 + 0)) := hp _ (List.mem_cons_of_mem _ List.mem_cons_self)
    simpa only [Int.zero_add, Int.add_zero, Int.one_mul] using q
  clear hp hf
  refine ⟨rfl, (ex1 ρ 3 (uX (0 + 1 * (ρ 1)) (0) (0))), (ex1_agr (by decide) agr2.rf), ?_, ?_⟩
  · refine List.forall_mem_cons.mpr ⟨?_, ?_⟩
    · show w230 (0 + (1 * ρ 2 + 0)) (0 + (1 * (uX (0 + 1 * (ρ 1)) (0) (0)) + 0))
      try simp only [Int.zero_add, Int.add_zero, Int.one_mul]
      exact (w230_set (l := 0) (b := 0) h0 (by decide) (fun m e => by obtain ⟨a, b, c⟩ := and_bits m 0; exact ⟨a, by rw [h1, e]; exact b, c⟩)).1
    · refine List.forall_mem_cons.mpr ⟨?_, ?_⟩
      · show w202 (0 + (1 * ρ 1 + 0)) (0 + 0) (0 + 0) (0 + (1 * (uX (0 + 1 * (ρ 1)) (0) (0)) + 0))
        try simp only [Int.zero_add, Int.add_zero, Int.one_mul]
        exact ⟨rfl, uX_nn _ _ _ h0.1, h0.1⟩
      · exact fun _ h => (by cases h)
  · exact fun _ h => (by cases h)
noncomputable def ru_msks0 : RU := (3, [(230, [((.ofNat 0), [(0, (.ofNat 1))]), ((.ofNat 0), [(1, (.ofNat 1))])]), (200, [((.ofNat 8), []), ((.ofNat 0), [(0, (.ofNat 1))]), ((.ofNat 1), []), ((.ofNat 0), [(2, (.ofNat 1))])])], [], [(230, [((.ofNat 0), [(2, (.ofNat 1))]), ((.ofNat 0), [(3, (.ofNat 1))])]), (202, [((.ofNat 0), [(1, (.ofNat 1))]), ((.ofNat 0), []), ((.ofNat 1), []), ((.ofNat 0), [(3, (.ofNat 1))])])], [], [0], 1, false)
theorem ru_msks0_ok : RuOk ru_msks0 := by
  refine ⟨by decide, fun ρ hp hf => ?_⟩
  have h0 : w230 (ρ 0) (ρ 1) := by
    have q : w230 (0 + (1 * ρ 0 + 0)) (0 + (1 * ρ 1 + 0)) := hp _ List.mem_cons_self
    simpa only [Int.zero_add, Int.add_zero, Int.one_mul] using q
  have h1 : w200 8 (ρ 0) 1 (ρ 2) := by
    have q : w200 (8 + 0) (0 + (1 * ρ 0 + 0)) (1 + 0) (0 + (1 * ρ 2 + 0)) := hp _ (List.mem_cons_of_mem _ List.mem_cons_self)
    simpa only [Int.zero_add, Int.add_zero, Int.one_mul] using q
  clear hp hf
  refine ⟨rfl, (ex1 ρ 3 (uX (0 + 1 * (ρ 1)) (0) (1))), (ex1_agr (by decide) agr2.rf), ?_, ?_⟩
  · refine List.forall_mem_cons.mpr ⟨?_, ?_⟩
    · show w230 (0 + (1 * ρ 2 + 0)) (0 + (1 * (uX (0 + 1 * (ρ 1)) (0) (1)) + 0))
      try simp only [Int.zero_add, Int.add_zero, Int.one_mul]
      exact (w230_set (l := 0) (b := 1) h0 (by decide) (fun m e => by obtain ⟨a, b, c⟩ := or_bits m 0; exact ⟨a, by rw [h1, e]; exact b, c⟩)).1
    · refine List.forall_mem_cons.mpr ⟨?_, ?_⟩
      · show w202 (0 + (1 * ρ 1 + 0)) (0 + 0) (1 + 0) (0 + (1 * (uX (0 + 1 * (ρ 1)) (0) (1)) + 0))
        try simp only [Int.zero_add, Int.add_zero, Int.one_mul]
        exact ⟨rfl, uX_nn _ _ _ h0.1, h0.1⟩
      · exact fun _ h => (by cases h)
  · exact fun _ h => (by cases h)
noncomputable def ru_mskc1 : RU := (3, [(230, [((.ofNat 0), [(0, (.ofNat 1))]), ((.ofNat 0), [(1, (.ofNat 1))])]), (200, [((.ofNat 7), []), ((.ofNat 0), [(0, (.ofNat 1))]), ((.negSucc 2), []), ((.ofNat 0), [(2, (.ofNat 1))])])], [], [(230, [((.ofNat 0), [(2, (.ofNat 1))]), ((.ofNat 0), [(3, (.ofNat 1))])]), (202, [((.ofNat 0), [(1, (.ofNat 1))]), ((.ofNat 1), []), ((.ofNat 0), []), ((.ofNat 0), [(3, (.ofNat 1))])])], [], [0], 1, false)
theorem ru_mskc1_ok : RuOk ru_mskc1 := by
  refine ⟨by decide, fun ρ hp hf => ?_⟩
  have h0 : w230 (ρ 0) (ρ 1) := by
    have q : w230 (0 + (1 * ρ 0 + 0)) (0 + (1 * ρ 1 + 0)) := hp _ List.mem_cons_self
    simpa only [Int.zero_add, Int.add_zero, Int.one_mul] using q
  have h1 : w200 7 (ρ 0) (-3) (ρ 2) := by
    have q : w200 (7 + 0) (0 + (1 * ρ 0 + 0)) ((-3) + 0) (0 + (1 * ρ 2 + 0)) := hp _ (List.mem_cons_of_mem _ List.mem_cons_self)
    simpa only [Int.zero_add, Int.add_zero, Int.one_mul] using q
  clear hp hf
  refine ⟨rfl, (ex1 ρ 3 (uX (0 + 1 * (ρ 1)) (1) (0))), (ex1_agr (by decide) agr2.rf), ?_, ?_⟩
  · refine List.forall_mem_cons.mpr ⟨?_, ?_⟩
    · show w230 (0 + (1 * ρ 2 + 0)) (0 + (1 * (uX (0 + 1 * (ρ 1)) (1) (0)) + 0))
      try simp only [Int.zero_add, Int.add_zero, Int.one_mul]
      exact (w230_set (l := 1) (b := 0) h0 (by decide) (fun m e => by obtain ⟨a, b, c⟩ := and_bits m 1; exact ⟨a, by rw [h1, e]; exact b, c⟩)).1
    · refine List.forall_mem_cons.mpr ⟨?_, ?_⟩
      · show w202 (0 + (1 * ρ 1 + 0)) (1 + 0) (0 + 0) (0 + (1 * (uX (0 + 1 * (ρ 1)) (1) (0)) + 0))
        try simp only [Int.zero_add, Int.add_zero, Int.one_mul]
        exact ⟨rfl, uX_nn _ _ _ h0.1, h0.1⟩
      · exact fun _ h => (by cases h)
  · exact fun _ h => (by cases h)
noncomputable def ru_msks1 : RU := (3, [(230, [((.ofNat 0), [(0, (.ofNat 1))]), ((.ofNat 0), [(1, (.ofNat 1))])]), (200, [((.ofNat 8), []), ((.ofNat 0), [(0, (.ofNat 1))]), ((.ofNat 2), []), ((.ofNat 0), [(2, (.ofNat 1))])])], [], [(230, [((.ofNat 0), [(2, (.ofNat 1))]), ((.ofNat 0), [(3, (.ofNat 1))])]), (202, [((.ofNat 0), [(1, (.ofNat 1))]), ((.ofNat 1), []), ((.ofNat 1), []), ((.ofNat 0), [(3, (.ofNat 1))])])], [], [0], 1, false)
theorem ru_msks1_ok : RuOk ru_msks1 := by
  refine ⟨by decide, fun ρ hp hf => ?_⟩
  have h0 : w230 (ρ 0) (ρ 1) := by
    have q : w230 (0 + (1 * ρ 0 + 0)) (0 + (1 * ρ 1 + 0)) := hp _ List.mem_cons_self
    simpa only [Int.zero_add, Int.add_zero, Int.one_mul] using q
  have h1 : w200 8 (ρ 0) 2 (ρ 2) := by
    have q : w200 (8 + 0) (0 + (1 * ρ 0 + 0)) (2 + 0) (0 + (1 * ρ 2 + 0)) := hp _ (List.mem_cons_of_mem _ List.mem_cons_self)
    simpa only [Int.zero_add, Int.add_zero, Int.one_mul] using q
  clear hp hf
  refine ⟨rfl, (ex1 ρ 3 (uX (0 + 1 * (ρ 1)) (1) (1))), (ex1_agr (by decide) agr2.rf), ?_, ?_⟩
  · refine List.forall_mem_cons.mpr ⟨?_, ?_⟩
    · show w230 (0 + (1 * ρ 2 + 0)) (0 + (1 * (uX (0 + 1 * (ρ 1)) (1) (1)) + 0))
      try simp only [Int.zero_add, Int.add_zero, Int.one_mul]
      exact (w230_set (l := 1) (b := 1) h0 (by decide) (fun m e => by obtain ⟨a, b, c⟩ := or_bits m 1; exact ⟨a, by rw [h1, e]; exact b, c⟩)).1
    · refine List.forall_mem_cons.mpr ⟨?_, ?_⟩
      · show w202 (0 + (1 * ρ 1 + 0)) (1 + 0) (1 + 0) (0 + (1 * (uX (0 + 1 * (ρ 1)) (1) (1)) + 0))
        try simp only [Int.zero_add, Int.add_zero, Int.one_mul]
        exact ⟨rfl, uX_nn _ _ _ h0.1, h0.1⟩
      · exact fun _ h => (by cases h)
  · exact fun _ h => (by cases h)
noncomputable def ru_mskc2 : RU := (3, [(230, [((.ofNat 0), [(0, (.ofNat 1))]), ((.ofNat 0), [(1, (.ofNat 1))])]), (200, [((.ofNat 7), []), ((.ofNat 0), [(0, (.ofNat 1))]), ((.negSucc 4), []), ((.ofNat 0), [(2, (.ofNat 1))])])], [], [(230, [((.ofNat 0), [(2, (.ofNat 1))]), ((.ofNat 0), [(3, (.ofNat 1))])]), (202, [((.ofNat 0), [(1, (.ofNat 1))]), ((.ofNat 2), []), ((.ofNat 0), []), ((.ofNat 0), [(3, (.ofNat 1))])])], [], [0], 1, false)
theorem ru_mskc2_ok : RuOk ru_mskc2 := by
  refine ⟨by decide, fun ρ hp hf => ?_⟩
  have h0 : w230 (ρ 0) (ρ 1) := by
    have q : w230 (0 + (1 * ρ 0 + 0)) (0 + (1 * ρ 1 + 0)) := hp _ List.mem_cons_self
    simpa only [Int.zero_add, Int.add_zero, Int.one_mul] using q
  have h1 : w200 7 (ρ 0) (-5) (ρ 2) := by
    have q : w200 (7 + 0) (0 + (1 * ρ 0 + 0)) ((-5) + 0) (0 + (1 * ρ 2 + 0)) := hp _ (List.mem_cons_of_mem _ List.mem_cons_self)
    simpa only [Int.zero_add, Int.add_zero, Int.one_mul] using q
  clear hp hf
  refine ⟨rfl, (ex1 ρ 3 (uX (0 + 1 * (ρ 1)) (2) (0))), (ex1_agr (by decide) agr2.rf), ?_, ?_⟩
  · refine List.forall_mem_cons.mpr ⟨?_, ?_⟩
    · show w230 (0 + (1 * ρ 2 + 0)) (0 + (1 * (uX (0 + 1 * (ρ 1)) (2) (0)) + 0))
      try simp only [Int.zero_add, Int.add_zero, Int.one_mul]
      exact (w230_set (l := 2) (b := 0) h0 (by decide) (fun m e => by obtain ⟨a, b, c⟩ := and_bits m 2; exact ⟨a, by rw [h1, e]; exact b, c⟩)).1
    · refine List.forall_mem_cons.mpr ⟨?_, ?_⟩
      · show w202 (0 + (1 * ρ 1 + 0)) (2 + 0) (0 + 0) (0 + (1 * (uX (0 + 1 * (ρ 1)) (2) (0)) + 0))
        try simp only [Int.zero_add, Int.add_zero, Int.one_mul]
        exact ⟨rfl, uX_nn _ _ _ h0.1, h0.1⟩
      · exact fun _ h => (by cases h)
  · exact fun _ h => (by cases h)
noncomputable def ru_msks2 : RU := (3, [(230, [((.ofNat 0), [(0, (.ofNat 1))]), ((.ofNat 0), [(1, (.ofNat 1))])]), (200, [((.ofNat 8), []), ((.ofNat 0), [(0, (.ofNat 1))]), ((.ofNat 4), []), ((.ofNat 0), [(2, (.ofNat 1))])])], [], [(230, [((.ofNat 0), [(2, (.ofNat 1))]), ((.ofNat 0), [(3, (.ofNat 1))])]), (202, [((.ofNat 0), [(1, (.ofNat 1))]), ((.ofNat 2), []), ((.ofNat 1), []), ((.ofNat 0), [(3, (.ofNat 1))])])], [], [0], 1, false)
theorem ru_msks2_ok : RuOk ru_msks2 := by
  refine ⟨by decide, fun ρ hp hf => ?_⟩
  have h0 : w230 (ρ 0) (ρ 1) := by
    have q : w230 (0 + (1 * ρ 0 + 0)) (0 + (1 * ρ 1 + 0)) := hp _ List.mem_cons_self
    simpa only [Int.zero_add, Int.add_zero, Int.one_mul] using q
  have h1 : w200 8 (ρ 0) 4 (ρ 2) := by
    have q : w200 (8 + 0) (0 + (1 * ρ 0 + 0)) (4 + 0) (0 + (1 * ρ 2 + 0)) := hp _ (List.mem_cons_of_mem _ List.mem_cons_self)
    simpa only [Int.zero_add, Int.add_zero, Int.one_mul] using q
  clear hp hf
  refine ⟨rfl, (ex1 ρ 3 (uX (0 + 1 * (ρ 1)) (2) (1))), (ex1_agr (by decide) agr2.rf), ?_, ?_⟩
  · refine List.forall_mem_cons.mpr ⟨?_, ?_⟩
    · show w230 (0 + (1 * ρ 2 + 0)) (0 + (1 * (uX (0 + 1 * (ρ 1)) (2) (1)) + 0))
      try simp only [Int.zero_add, Int.add_zero, Int.one_mul]
      exact (w230_set (l := 2) (b := 1) h0 (by decide) (fun m e => by obtain ⟨a, b, c⟩ := or_bits m 2; exact ⟨a, by rw [h1, e]; exact b, c⟩)).1
    · refine List.forall_mem_cons.mpr ⟨?_, ?_⟩
      · show w202 (0 + (1 * ρ 1 + 0)) (2 + 0) (1 + 0) (0 + (1 * (uX (0 + 1 * (ρ 1)) (2) (1)) + 0))
        try simp only [Int.zero_add, Int.add_zero, Int.one_mul]
        exact ⟨rfl, uX_nn _ _ _ h0.1, h0.1⟩
      · exact fun _ h => (by cases h)
  · exact fun _ h => (by cases h)
noncomputable def ru_mskc3 : RU := (3, [(230, [((.ofNat 0), [(0, (.ofNat 1))]), ((.ofNat 0), [(1, (.ofNat 1))])]), (200, [((.ofNat 7), []), ((.ofNat 0), [(0, (.ofNat 1))]), ((.negSucc 8), []), ((.ofNat 0), [(2, (.ofNat 1))])])], [], [(230, [((.ofNat 0), [(2, (.ofNat 1))]), ((.ofNat 0), [(3, (.ofNat 1))])]), (202, [((.ofNat 0), [(1, (.ofNat 1))]), ((.ofNat 3), []), ((.ofNat 0), []), ((.ofNat 0), [(3, (.ofNat 1))])])], [], [0], 1, false)
theorem ru_mskc3_ok : RuOk ru_mskc3 := by
  refine ⟨by decide, fun ρ hp hf => ?_⟩
  have h0 : w230 (ρ 0) (ρ 1) := by
    have q : w230 (0 + (1 * ρ 0 + 0)) (0 + (1 * ρ 1 + 0)) := hp _ List.mem_cons_self
    simpa only [Int.zero_add, Int.add_zero, Int.one_mul] using q
  have h1 : w200 7 (ρ 0) (-9) (ρ 2) := by
    have q : w200 (7 + 0) (0 + (1 * ρ 0 + 0)) ((-9) + 0) (0 + (1 * ρ 2 + 0)) := hp _ (List.mem_cons_of_mem _ List.mem_cons_self)
    simpa only [Int.zero_add, Int.add_zero, Int.one_mul] using q
  clear hp hf
  refine ⟨rfl, (ex1 ρ 3 (uX (0 + 1 * (ρ 1)) (3) (0))), (ex1_agr (by decide) agr2.rf), ?_, ?_⟩
  · refine List.forall_mem_cons.mpr ⟨?_, ?_⟩
    · show w230 (0 + (1 * ρ 2 + 0)) (0 + (1 * (uX (0 + 1 * (ρ 1)) (3) (0)) + 0))
      try simp only [Int.zero_add, Int.add_zero, Int.one_mul]
      exact (w230_set (l := 3) (b := 0) h0 (by decide) (fun m e => by obtain ⟨a, b, c⟩ := and_bits m 3; exact ⟨a, by rw [h1, e]; exact b, c⟩)).1
    · refine List.forall_mem_cons.mpr ⟨?_, ?_⟩
      · show w202 (0 + (1 * ρ 1 + 0)) (3 + 0) (0 + 0) (0 + (1 * (uX (0 + 1 * (ρ 1)) (3) (0)) + 0))
        try simp only [Int.zero_add, Int.add_zero, Int.one_mul]
        exact ⟨rfl, uX_nn _ _ _ h0.1, h0.1⟩
      · exact fun _ h => (by cases h)
  · exact fun _ h => (by cases h)
noncomputable def ru_msks3 : RU := (3, [(230, [((.ofNat 0), [(0, (.ofNat 1))]), ((.ofNat 0), [(1, (.ofNat 1))])]), (200, [((.ofNat 8), []), ((.ofNat 0), [(0, (.ofNat 1))]), ((.ofNat 8), []), ((.ofNat 0), [(2, (.ofNat 1))])])], [], [(230, [((.ofNat 0), [(2, (.ofNat 1))]), ((.ofNat 0), [(3, (.ofNat 1))])]), (202, [((.ofNat 0), [(1, (.ofNat 1))]), ((.ofNat 3), []), ((.ofNat 1), []), ((.ofNat 0), [(3, (.ofNat 1))])])], [], [0], 1, false)
theorem ru_msks3_ok : RuOk ru_msks3 := by
  refine ⟨by decide, fun ρ hp hf => ?_⟩
  have h0 : w230 (ρ 0) (ρ 1) := by
    have q : w230 (0 + (1 * ρ 0 + 0)) (0 + (1 * ρ 1 + 0)) := hp _ List.mem_cons_self
    simpa only [Int.zero_add, Int.add_zero, Int.one_mul] using q
  have h1 : w200 8 (ρ 0) 8 (ρ 2) := by
    have q : w200 (8 + 0) (0 + (1 * ρ 0 + 0)) (8 + 0) (0 + (1 * ρ 2 + 0)) := hp _ (List.mem_cons_of_mem _ List.mem_cons_self)
    simpa only [Int.zero_add, Int.add_zero, Int.one_mul] using q
  clear hp hf
  refine ⟨rfl, (ex1 ρ 3 (uX (0 + 1 * (ρ 1)) (3) (1))), (ex1_agr (by decide) agr2.rf), ?_, ?_⟩
  · refine List.forall_mem_cons.mpr ⟨?_, ?_⟩
    · show w230 (0 + (1 * ρ 2 + 0)) (0 + (1 * (uX (0 + 1 * (ρ 1)) (3) (1)) + 0))
      try simp only [Int.zero_add, Int.add_zero, Int.one_mul]
      exact (w230_set (l := 3) (b := 1) h0 (by decide) (fun m e => by obtain ⟨a, b, c⟩ := or_bits m 3; exact ⟨a, by rw [h1, e]; exact b, c⟩)).1
    · refine List.forall_mem_cons.mpr ⟨?_, ?_⟩
      · show w202 (0 + (1 * ρ 1 + 0)) (3 + 0) (1 + 0) (0 + (1 * (uX (0 + 1 * (ρ 1)) (3) (1)) + 0))
        try simp only [Int.zero_add, Int.add_zero, Int.one_mul]
        exact ⟨rfl, uX_nn _ _ _ h0.1, h0.1⟩
      · exact fun _ h => (by cases h)
  · exact fun _ h => (by cases h)
