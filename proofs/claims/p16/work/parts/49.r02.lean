/-! ===== rules, proved (written by wip/vse8/mkrule.py) ===== -/
noncomputable def ru_pka0 : RU := (13, [(213, [((.ofNat 0), [(0, (.ofNat 1))]), ((.ofNat 0), [(1, (.ofNat 1))]), ((.ofNat 0), [(2, (.ofNat 1))]), ((.ofNat 0), [(3, (.ofNat 1))]), ((.ofNat 0), [(4, (.ofNat 1))]), ((.ofNat 0), [(5, (.ofNat 1))]), ((.ofNat 0), [(6, (.ofNat 1))]), ((.ofNat 0), [(7, (.ofNat 1))]), ((.ofNat 0), [(8, (.ofNat 1))]), ((.ofNat 0), [(9, (.ofNat 1))]), ((.ofNat 0), [(10, (.ofNat 1))]), ((.ofNat 0), [(11, (.ofNat 1))]), ((.ofNat 0), [(12, (.ofNat 1))])])], [], [(201, [((.ofNat 0), [(0, (.ofNat 1))]), ((.ofNat 0), []), ((.ofNat 0), [(1, (.ofNat 1))])])], [], [], 0, false)
theorem ru_pka0_ok : RuOk ru_pka0 := by
  refine ⟨by decide, fun ρ hp hf => ?_⟩
  have h0 : w213 (ρ 0) (ρ 1) (ρ 2) (ρ 3) (ρ 4) (ρ 5) (ρ 6) (ρ 7) (ρ 8) (ρ 9) (ρ 10) (ρ 11) (ρ 12) := by
    have q : w213 (0 + (1 * ρ 0 + 0)) (0 + (1 * ρ 1 + 0)) (0 + (1 * ρ 2 + 0)) (0 + (1 * ρ 3 + 0)) (0 + (1 * ρ 4 + 0)) (0 + (1 * ρ 5 + 0)) (0 + (1 * ρ 6 + 0)) (0 + (1 * ρ 7 + 0)) (0 + (1 * ρ 8 + 0)) (0 + (1 * ρ 9 + 0)) (0 + (1 * ρ 10 + 0)) (0 + (1 * ρ 11 + 0)) (0 + (1 * ρ 12 + 0)) := hp _ List.mem_cons_self
    simpa only [Int.zero_add, Int.add_zero, Int.one_mul] using q
  clear hp hf
  refine ⟨rfl, ρ, agr2.rf, ?_, ?_⟩
  · refine List.forall_mem_cons.mpr ⟨?_, ?_⟩
    · show w201 (0 + (1 * ρ 0 + 0)) (0 + 0) (0 + (1 * ρ 1 + 0))
      try simp only [Int.zero_add, Int.add_zero, Int.one_mul]
      unfold w213 at h0
      unfold w201
      omega
    · exact fun _ h => (by cases h)
  · exact fun _ h => (by cases h)
noncomputable def ru_pkm0 : RU := (13, [(213, [((.ofNat 0), [(0, (.ofNat 1))]), ((.ofNat 0), [(1, (.ofNat 1))]), ((.ofNat 0), [(2, (.ofNat 1))]), ((.ofNat 0), [(3, (.ofNat 1))]), ((.ofNat 0), [(4, (.ofNat 1))]), ((.ofNat 0), [(5, (.ofNat 1))]), ((.ofNat 0), [(6, (.ofNat 1))]), ((.ofNat 0), [(7, (.ofNat 1))]), ((.ofNat 0), [(8, (.ofNat 1))]), ((.ofNat 0), [(9, (.ofNat 1))]), ((.ofNat 0), [(10, (.ofNat 1))]), ((.ofNat 0), [(11, (.ofNat 1))]), ((.ofNat 0), [(12, (.ofNat 1))])])], [], [(201, [((.ofNat 0), [(0, (.ofNat 1))]), ((.ofNat 1), []), ((.ofNat 0), [(2, (.ofNat 1))])])], [], [], 0, false)
theorem ru_pkm0_ok : RuOk ru_pkm0 := by
  refine ⟨by decide, fun ρ hp hf => ?_⟩
  have h0 : w213 (ρ 0) (ρ 1) (ρ 2) (ρ 3) (ρ 4) (ρ 5) (ρ 6) (ρ 7) (ρ 8) (ρ 9) (ρ 10) (ρ 11) (ρ 12) := by
    have q : w213 (0 + (1 * ρ 0 + 0)) (0 + (1 * ρ 1 + 0)) (0 + (1 * ρ 2 + 0)) (0 + (1 * ρ 3 + 0)) (0 + (1 * ρ 4 + 0)) (0 + (1 * ρ 5 + 0)) (0 + (1 * ρ 6 + 0)) (0 + (1 * ρ 7 + 0)) (0 + (1 * ρ 8 + 0)) (0 + (1 * ρ 9 + 0)) (0 + (1 * ρ 10 + 0)) (0 + (1 * ρ 11 + 0)) (0 + (1 * ρ 12 + 0)) := hp _ List.mem_cons_self
    simpa only [Int.zero_add, Int.add_zero, Int.one_mul] using q
  clear hp hf
  refine ⟨rfl, ρ, agr2.rf, ?_, ?_⟩
  · refine List.forall_mem_cons.mpr ⟨?_, ?_⟩
    · show w201 (0 + (1 * ρ 0 + 0)) (1 + 0) (0 + (1 * ρ 2 + 0))
      try simp only [Int.zero_add, Int.add_zero, Int.one_mul]
      unfold w213 at h0
      unfold w201
      omega
    · exact fun _ h => (by cases h)
  · exact fun _ h => (by cases h)
noncomputable def ru_pks0 : RU := (13, [(213, [((.ofNat 0), [(0, (.ofNat 1))]), ((.ofNat 0), [(1, (.ofNat 1))]), ((.ofNat 0), [(2, (.ofNat 1))]), ((.ofNat 0), [(3, (.ofNat 1))]), ((.ofNat 0), [(4, (.ofNat 1))]), ((.ofNat 0), [(5, (.ofNat 1))]), ((.ofNat 0), [(6, (.ofNat 1))]), ((.ofNat 0), [(7, (.ofNat 1))]), ((.ofNat 0), [(8, (.ofNat 1))]), ((.ofNat 0), [(9, (.ofNat 1))]), ((.ofNat 0), [(10, (.ofNat 1))]), ((.ofNat 0), [(11, (.ofNat 1))]), ((.ofNat 0), [(12, (.ofNat 1))])])], [], [(201, [((.ofNat 0), [(0, (.ofNat 1))]), ((.ofNat 2), []), ((.ofNat 0), [(3, (.ofNat 1))])])], [], [], 0, false)
theorem ru_pks0_ok : RuOk ru_pks0 := by
  refine ⟨by decide, fun ρ hp hf => ?_⟩
  have h0 : w213 (ρ 0) (ρ 1) (ρ 2) (ρ 3) (ρ 4) (ρ 5) (ρ 6) (ρ 7) (ρ 8) (ρ 9) (ρ 10) (ρ 11) (ρ 12) := by
    have q : w213 (0 + (1 * ρ 0 + 0)) (0 + (1 * ρ 1 + 0)) (0 + (1 * ρ 2 + 0)) (0 + (1 * ρ 3 + 0)) (0 + (1 * ρ 4 + 0)) (0 + (1 * ρ 5 + 0)) (0 + (1 * ρ 6 + 0)) (0 + (1 * ρ 7 + 0)) (0 + (1 * ρ 8 + 0)) (0 + (1 * ρ 9 + 0)) (0 + (1 * ρ 10 + 0)) (0 + (1 * ρ 11 + 0)) (0 + (1 * ρ 12 + 0)) := hp _ List.mem_cons_self
    simpa only [Int.zero_add, Int.add_zero, Int.one_mul] using q
  clear hp hf
  refine ⟨rfl, ρ, agr2.rf, ?_, ?_⟩
  · refine List.forall_mem_cons.mpr ⟨?_, ?_⟩
    · show w201 (0 + (1 * ρ 0 + 0)) (2 + 0) (0 + (1 * ρ 3 + 0))
      try simp only [Int.zero_add, Int.add_zero, Int.one_mul]
      unfold w213 at h0
      unfold w201
      omega
    · exact fun _ h => (by cases h)
  · exact fun _ h => (by cases h)
noncomputable def ru_pka1 : RU := (13, [(213, [((.ofNat 0), [(0, (.ofNat 1))]), ((.ofNat 0), [(1, (.ofNat 1))]), ((.ofNat 0), [(2, (.ofNat 1))]), ((.ofNat 0), [(3, (.ofNat 1))]), ((.ofNat 0), [(4, (.ofNat 1))]), ((.ofNat 0), [(5, (.ofNat 1))]), ((.ofNat 0), [(6, (.ofNat 1))]), ((.ofNat 0), [(7, (.ofNat 1))]), ((.ofNat 0), [(8, (.ofNat 1))]), ((.ofNat 0), [(9, (.ofNat 1))]), ((.ofNat 0), [(10, (.ofNat 1))]), ((.ofNat 0), [(11, (.ofNat 1))]), ((.ofNat 0), [(12, (.ofNat 1))])])], [], [(201, [((.ofNat 0), [(0, (.ofNat 1))]), ((.ofNat 3), []), ((.ofNat 0), [(4, (.ofNat 1))])])], [], [], 0, false)
theorem ru_pka1_ok : RuOk ru_pka1 := by
  refine ⟨by decide, fun ρ hp hf => ?_⟩
  have h0 : w213 (ρ 0) (ρ 1) (ρ 2) (ρ 3) (ρ 4) (ρ 5) (ρ 6) (ρ 7) (ρ 8) (ρ 9) (ρ 10) (ρ 11) (ρ 12) := by
    have q : w213 (0 + (1 * ρ 0 + 0)) (0 + (1 * ρ 1 + 0)) (0 + (1 * ρ 2 + 0)) (0 + (1 * ρ 3 + 0)) (0 + (1 * ρ 4 + 0)) (0 + (1 * ρ 5 + 0)) (0 + (1 * ρ 6 + 0)) (0 + (1 * ρ 7 + 0)) (0 + (1 * ρ 8 + 0)) (0 + (1 * ρ 9 + 0)) (0 + (1 * ρ 10 + 0)) (0 + (1 * ρ 11 + 0)) (0 + (1 * ρ 12 + 0)) := hp _ List.mem_cons_self
    simpa only [Int.zero_add, Int.add_zero, Int.one_mul] using q
  clear hp hf
  refine ⟨rfl, ρ, agr2.rf, ?_, ?_⟩
  · refine List.forall_mem_cons.mpr ⟨?_, ?_⟩
    · show w201 (0 + (1 * ρ 0 + 0)) (3 + 0) (0 + (1 * ρ 4 + 0))
      try simp only [Int.zero_add, Int.add_zero, Int.one_mul]
      unfold w213 at h0
      unfold w201
      omega
    · exact fun _ h => (by cases h)
  · exact fun _ h => (by cases h)
noncomputable def ru_pkm1 : RU := (13, [(213, [((.ofNat 0), [(0, (.ofNat 1))]), ((.ofNat 0), [(1, (.ofNat 1))]), ((.ofNat 0), [(2, (.ofNat 1))]), ((.ofNat 0), [(3, (.ofNat 1))]), ((.ofNat 0), [(4, (.ofNat 1))]), ((.ofNat 0), [(5, (.ofNat 1))]), ((.ofNat 0), [(6, (.ofNat 1))]), ((.ofNat 0), [(7, (.ofNat 1))]), ((.ofNat 0), [(8, (.ofNat 1))]), ((.ofNat 0), [(9, (.ofNat 1))]), ((.ofNat 0), [(10, (.ofNat 1))]), ((.ofNat 0), [(11, (.ofNat 1))]), ((.ofNat 0), [(12, (.ofNat 1))])])], [], [(201, [((.ofNat 0), [(0, (.ofNat 1))]), ((.ofNat 4), []), ((.ofNat 0), [(5, (.ofNat 1))])])], [], [], 0, false)
theorem ru_pkm1_ok : RuOk ru_pkm1 := by
  refine ⟨by decide, fun ρ hp hf => ?_⟩
  have h0 : w213 (ρ 0) (ρ 1) (ρ 2) (ρ 3) (ρ 4) (ρ 5) (ρ 6) (ρ 7) (ρ 8) (ρ 9) (ρ 10) (ρ 11) (ρ 12) := by
    have q : w213 (0 + (1 * ρ 0 + 0)) (0 + (1 * ρ 1 + 0)) (0 + (1 * ρ 2 + 0)) (0 + (1 * ρ 3 + 0)) (0 + (1 * ρ 4 + 0)) (0 + (1 * ρ 5 + 0)) (0 + (1 * ρ 6 + 0)) (0 + (1 * ρ 7 + 0)) (0 + (1 * ρ 8 + 0)) (0 + (1 * ρ 9 + 0)) (0 + (1 * ρ 10 + 0)) (0 + (1 * ρ 11 + 0)) (0 + (1 * ρ 12 + 0)) := hp _ List.mem_cons_self
    simpa only [Int.zero_add, Int.add_zero, Int.one_mul] using q
  clear hp hf
  refine ⟨rfl, ρ, agr2.rf, ?_, ?_⟩
  · refine List.forall_mem_cons.mpr ⟨?_, ?_⟩
    · show w201 (0 + (1 * ρ 0 + 0)) (4 + 0) (0 + (1 * ρ 5 + 0))
      try simp only [Int.zero_add, Int.add_zero, Int.one_mul]
      unfold w213 at h0
      unfold w201
      omega
    · exact fun _ h => (by cases h)
  · exact fun _ h => (by cases h)
noncomputable def ru_pks1 : RU := (13, [(213, [((.ofNat 0), [(0, (.ofNat 1))]), ((.ofNat 0), [(1, (.ofNat 1))]), ((.ofNat 0), [(2, (.ofNat 1))]), ((.ofNat 0), [(3, (.ofNat 1))]), ((.ofNat 0), [(4, (.ofNat 1))]), ((.ofNat 0), [(5, (.ofNat 1))]), ((.ofNat 0), [(6, (.ofNat 1))]), ((.ofNat 0), [(7, (.ofNat 1))]), ((.ofNat 0), [(8, (.ofNat 1))]), ((.ofNat 0), [(9, (.ofNat 1))]), ((.ofNat 0), [(10, (.ofNat 1))]), ((.ofNat 0), [(11, (.ofNat 1))]), ((.ofNat 0), [(12, (.ofNat 1))])])], [], [(201, [((.ofNat 0), [(0, (.ofNat 1))]), ((.ofNat 5), []), ((.ofNat 0), [(6, (.ofNat 1))])])], [], [], 0, false)
theorem ru_pks1_ok : RuOk ru_pks1 := by
  refine ⟨by decide, fun ρ hp hf => ?_⟩
  have h0 : w213 (ρ 0) (ρ 1) (ρ 2) (ρ 3) (ρ 4) (ρ 5) (ρ 6) (ρ 7) (ρ 8) (ρ 9) (ρ 10) (ρ 11) (ρ 12) := by
    have q : w213 (0 + (1 * ρ 0 + 0)) (0 + (1 * ρ 1 + 0)) (0 + (1 * ρ 2 + 0)) (0 + (1 * ρ 3 + 0)) (0 + (1 * ρ 4 + 0)) (0 + (1 * ρ 5 + 0)) (0 + (1 * ρ 6 + 0)) (0 + (1 * ρ 7 + 0)) (0 + (1 * ρ 8 + 0)) (0 + (1 * ρ 9 + 0)) (0 + (1 * ρ 10 + 0)) (0 + (1 * ρ 11 + 0)) (0 + (1 * ρ 12 + 0)) := hp _ List.mem_cons_self
    simpa only [Int.zero_add, Int.add_zero, Int.one_mul] using q
  clear hp hf
  refine ⟨rfl, ρ, agr2.rf, ?_, ?_⟩
  · refine List.forall_mem_cons.mpr ⟨?_, ?_⟩
    · show w201 (0 + (1 * ρ 0 + 0)) (5 + 0) (0 + (1 * ρ 6 + 0))
      try simp only [Int.zero_add, Int.add_zero, Int.one_mul]
      unfold w213 at h0
      unfold w201
      omega
    · exact fun _ h => (by cases h)
  · exact fun _ h => (by cases h)
noncomputable def ru_pka2 : RU := (13, [(213, [((.ofNat 0), [(0, (.ofNat 1))]), ((.ofNat 0), [(1, (.ofNat 1))]), ((.ofNat 0), [(2, (.ofNat 1))]), ((.ofNat 0), [(3, (.ofNat 1))]), ((.ofNat 0), [(4, (.ofNat 1))]), ((.ofNat 0), [(5, (.ofNat 1))]), ((.ofNat 0), [(6, (.ofNat 1))]), ((.ofNat 0), [(7, (.ofNat 1))]), ((.ofNat 0), [(8, (.ofNat 1))]), ((.ofNat 0), [(9, (.ofNat 1))]), ((.ofNat 0), [(10, (.ofNat 1))]), ((.ofNat 0), [(11, (.ofNat 1))]), ((.ofNat 0), [(12, (.ofNat 1))])])], [], [(201, [((.ofNat 0), [(0, (.ofNat 1))]), ((.ofNat 6), []), ((.ofNat 0), [(7, (.ofNat 1))])])], [], [], 0, false)
theorem ru_pka2_ok : RuOk ru_pka2 := by
  refine ⟨by decide, fun ρ hp hf => ?_⟩
  have h0 : w213 (ρ 0) (ρ 1) (ρ 2) (ρ 3) (ρ 4) (ρ 5) (ρ 6) (ρ 7) (ρ 8) (ρ 9) (ρ 10) (ρ 11) (ρ 12) := by
    have q : w213 (0 + (1 * ρ 0 + 0)) (0 + (1 * ρ 1 + 0)) (0 + (1 * ρ 2 + 0)) (0 + (1 * ρ 3 + 0)) (0 + (1 * ρ 4 + 0)) (0 + (1 * ρ 5 + 0)) (0 + (1 * ρ 6 + 0)) (0 + (1 * ρ 7 + 0)) (0 + (1 * ρ 8 + 0)) (0 + (1 * ρ 9 + 0)) (0 + (1 * ρ 10 + 0)) (0 + (1 * ρ 11 + 0)) (0 + (1 * ρ 12 + 0)) := hp _ List.mem_cons_self
    simpa only [Int.zero_add, Int.add_zero, Int.one_mul] using q
  clear hp hf
  refine ⟨rfl, ρ, agr2.rf, ?_, ?_⟩
  · refine List.forall_mem_cons.mpr ⟨?_, ?_⟩
    · show w201 (0 + (1 * ρ 0 + 0)) (6 + 0) (0 + (1 * ρ 7 + 0))
      try simp only [Int.zero_add, Int.add_zero, Int.one_mul]
      unfold w213 at h0
      unfold w201
      omega
    · exact fun _ h => (by cases h)
  · exact fun _ h => (by cases h)
noncomputable def ru_pkm2 : RU := (13, [(213, [((.ofNat 0), [(0, (.ofNat 1))]), ((.ofNat 0), [(1, (.ofNat 1))]), ((.ofNat 0), [(2, (.ofNat 1))]), ((.ofNat 0), [(3, (.ofNat 1))]), ((.ofNat 0), [(4, (.ofNat 1))]), ((.ofNat 0), [(5, (.ofNat 1))]), ((.ofNat 0), [(6, (.ofNat 1))]), ((.ofNat 0), [(7, (.ofNat 1))]), ((.ofNat 0), [(8, (.ofNat 1))]), ((.ofNat 0), [(9, (.ofNat 1))]), ((.ofNat 0), [(10, (.ofNat 1))]), ((.ofNat 0), [(11, (.ofNat 1))]), ((.ofNat 0), [(12, (.ofNat 1))])])], [], [(201, [((.ofNat 0), [(0, (.ofNat 1))]), ((.ofNat 7), []), ((.ofNat 0), [(8, (.ofNat 1))])])], [], [], 0, false)
theorem ru_pkm2_ok : RuOk ru_pkm2 := by
  refine ⟨by decide, fun ρ hp hf => ?_⟩
  have h0 : w213 (ρ 0) (ρ 1) (ρ 2) (ρ 3) (ρ 4) (ρ 5) (ρ 6) (ρ 7) (ρ 8) (ρ 9) (ρ 10) (ρ 11) (ρ 12) := by
    have q : w213 (0 + (1 * ρ 0 + 0)) (0 + (1 * ρ 1 + 0)) (0 + (1 * ρ 2 + 0)) (0 + (1 * ρ 3 + 0)) (0 + (1 * ρ 4 + 0)) (0 + (1 * ρ 5 + 0)) (0 + (1 * ρ 6 + 0)) (0 + (1 * ρ 7 + 0)) (0 + (1 * ρ 8 + 0)) (0 + (1 * ρ 9 + 0)) (0 + (1 * ρ 10 + 0)) (0 + (1 * ρ 11 + 0)) (0 + (1 * ρ 12 + 0)) := hp _ List.mem_cons_self
    simpa only [Int.zero_add, Int.add_zero, Int.one_mul] using q
  clear hp hf
  refine ⟨rfl, ρ, agr2.rf, ?_, ?_⟩
  · refine List.forall_mem_cons.mpr ⟨?_, ?_⟩
    · show w201 (0 + (1 * ρ 0 + 0)) (7 + 0) (0 + (1 * ρ 8 + 0))
      try simp only [Int.zero_add, Int.add_zero, Int.one_mul]
      unfold w213 at h0
      unfold w201
      omega
    · exact fun _ h => (by cases h)
  · exact fun _ h => (by cases h)
noncomputable def ru_pks2 : RU := (13, [(213, [((.ofNat 0), [(0, (.ofNat 1))]), ((.ofNat 0), [(1, (.ofNat 1))]), ((.ofNat 0), [(2, (.ofNat 1))]), ((.ofNat 0), [(3, (.ofNat 1))]), ((.ofNat 0), [(4, (.ofNat 1))]), ((.ofNat 0), [(5, (.ofNat 1))]), ((.ofNat 0), [(6, (.ofNat 1))]), ((.ofNat 0), [(7, (.ofNat 1))]), ((.ofNat 0), [(8, (.ofNat 1))]), ((.ofNat 0), [(9, (.ofNat 1))]), ((.ofNat 0), [(10, (.ofNat 1))]), ((.ofNat 0), [(11, (.ofNat 1))]), ((.ofNat 0), [(12, (.ofNat 1))])])], [], [(201, [((.ofNat 0), [(0, (.ofNat 1))]), ((.ofNat 8), []), ((.ofNat 0), [(9, (.ofNat 1))])])], [], [], 0, false)
theorem ru_pks2_ok : RuOk ru_pks2 := by
  refine ⟨by decide, fun ρ hp hf => ?_⟩
  have h0 : w213 (ρ 0) (ρ 1) (ρ 2) (ρ 3) (ρ 4) (ρ 5) (ρ 6) (ρ 7) (ρ 8) (ρ 9) (ρ 10) (ρ 11) (ρ 12) := by
    have q : w213 (0 + (1 * ρ 0 + 0)) (0 + (1 * ρ 1 + 0)) (0 + (1 * ρ 2 + 0)) (0 + (1 * ρ 3 + 0)) (0 + (1 * ρ 4 + 0)) (0 + (1 * ρ 5 + 0)) (0 + (1 * ρ 6 + 0)) (0 + (1 * ρ 7 + 0)) (0 + (1 * ρ 8 + 0)) (0 + (1 * ρ 9 + 0)) (0 + (1 * ρ 10 + 0)) (0 + (1 * ρ 11 + 0)) (0 + (1 * ρ 12 + 0)) := hp _ List.mem_cons_self
    simpa only [Int.zero_add, Int.add_zero, Int.one_mul] using q
  clear hp hf
  refine ⟨rfl, ρ, agr2.rf, ?_, ?_⟩
  · refine List.forall_mem_cons.mpr ⟨?_, ?_⟩
    · show w201 (0 + (1 * ρ 0 + 0)) (8 + 0) (0 + (1 * ρ 9 + 0))
      try simp only [Int.zero_add, Int.add_zero, Int.one_mul]
      unfold w213 at h0
      unfold w201
      omega
    · exact fun _ h => (by cases h)
  · exact fun _ h => (by cases h)
noncomputable def ru_pka3 : RU := (13, [(213, [((.ofNat 0), [(0, (.ofNat 1))]), ((.ofNat 0), [(1, (.ofNat 1))]), ((.ofNat 0), [(2, (.ofNat 1))]), ((.ofNat 0), [(3, (.ofNat 1))]), ((.ofNat 0), [(4, (.ofNat 1))]), ((.ofNat 0), [(5, (.ofNat 1))]), ((.ofNat 0), [(6, (.ofNat 1))]), ((.ofNat 0), [(7, (.ofNat 1))]), ((.ofNat 0), [(8, (.ofNat 1))]), ((.ofNat 0), [(9, (.ofNat 1))]), ((.ofNat 0), [(10, (.ofNat 1))]), ((.ofNat 0), [(11, (.ofNat 1))]), ((.ofNat 0), [(12, (.ofNat 1))])])], [], [(201, [((.ofNat 0), [(0, (.ofNat 1))]), ((.ofNat 9), []), ((.ofNat 0), [(10, (.ofNat 1))])])], [], [], 0, false)
theorem ru_pka3_ok : RuOk ru_pka3 := by
  refine ⟨by decide, fun ρ hp hf => ?_⟩
  have h0 : w213 (ρ 0) (ρ 1) (ρ 2) (ρ 3) (ρ 4) (ρ 5) (ρ 6) (ρ 7) (ρ 8) (ρ 9) (ρ 10) (ρ 11) (ρ 12) := by
    have q : w213 (0 + (1 * ρ 0 + 0)) (0 + (1 * ρ 1 + 0)) (0 + (1 * ρ 2 + 0)) (0 + (1 * ρ 3 + 0)) (0 + (1 * ρ 4 + 0)) (0 + (1 * ρ 5 + 0)) (0 + (1 * ρ 6 + 0)) (0 + (1 * ρ 7 + 0)) (0 + (1 * ρ 8 + 0)) (0 + (1 * ρ 9 + 0)) (0 + (1 * ρ 10 + 0)) (0 + (1 * ρ 11 + 0)) (0 + (1 * ρ 12 + 0)) := hp _ List.mem_cons_self
    simpa only [Int.zero_add, Int.add_zero, Int.one_mul] using q
  clear hp hf
  refine ⟨rfl, ρ, agr2.rf, ?_, ?_⟩
  · refine List.forall_mem_cons.mpr ⟨?_, ?_⟩
    · show w201 (0 + (1 * ρ 0 + 0)) (9 + 0) (0 + (1 * ρ 10 + 0))
      try simp only [Int.zero_add, Int.add_zero, Int.one_mul]
      unfold w213 at h0
      unfold w201
      omega
    · exact fun _ h => (by cases h)
  · exact fun _ h => (by cases h)
noncomputable def ru_pkm3 : RU := (13, [(213, [((.ofNat 0), [(0, (.ofNat 1))]), ((.ofNat 0), [(1, (.ofNat 1))]), ((.ofNat 0), [(2, (.ofNat 1))]), ((.ofNat 0), [(3, (.ofNat 1))]), ((.ofNat 0), [(4, (.ofNat 1))]), ((.ofNat 0), [(5, (.ofNat 1))]), ((.ofNat 0), [(6, (.ofNat 1))]), ((.ofNat 0), [(7, (.ofNat 1))]), ((.ofNat 0), [(8, (.ofNat 1))]), ((.ofNat 0), [(9, (.ofNat 1))]), ((.ofNat 0), [(10, (.ofNat 1))]), ((.ofNat 0), [(11, (.ofNat 1))]), ((.ofNat 0), [(12, (.ofNat 1))])])], [], [(201, [((.ofNat 0), [(0, (.ofNat 1))]), ((.ofNat 10), []), ((.ofNat 0), [(11, (.ofNat 1))])])], [], [], 0, false)
theorem ru_pkm3_ok : RuOk ru_pkm3 := by
  refine ⟨by decide, fun ρ hp hf => ?_⟩
  have h0 : w213 (ρ 0) (ρ 1) (ρ 2) (ρ 3) (ρ 4) (ρ 5) (ρ 6) (ρ 7) (ρ 8) (ρ 9) (ρ 10) (ρ 11) (ρ 12) := by
    have q : w213 (0 + (1 * ρ 0 + 0)) (0 + (1 * ρ 1 + 0)) (0 + (1 * ρ 2 + 0)) (0 + (1 * ρ 3 + 0)) (0 + (1 * ρ 4 + 0)) (0 + (1 * ρ 5 + 0)) (0 + (1 * ρ 6 + 0)) (0 + (1 * ρ 7 + 0)) (0 + (1 * ρ 8 + 0)) (0 + (1 * ρ 9 + 0)) (0 + (1 * ρ 10 + 0)) (0 + (1 * ρ 11 + 0)) (0 + (1 * ρ 12 + 0)) := hp _ List.mem_cons_self
    simpa only [Int.zero_add, Int.add_zero, Int.one_mul] using q
  clear hp hf
  refine ⟨rfl, ρ, agr2.rf, ?_, ?_⟩
  · refine List.forall_mem_cons.mpr ⟨?_, ?_⟩
    · show w201 (0 + (1 * ρ 0 + 0)) (10 + 0) (0 + (1 * ρ 11 + 0))
      try simp only [Int.zero_add, Int.add_zero, Int.one_mul]
      unfold w213 at h0
      unfold w201
      omega
    · exact fun _ h => (by cases h)
  · exact fun _ h => (by cases h)
noncomputable def ru_pks3 : RU := (13, [(213, [((.ofNat 0), [(0, (.ofNat 1))]), ((.ofNat 0), [(1, (.ofNat 1))]), ((.ofNat 0), [(2, (.ofNat 1))]), ((.ofNat 0), [(3, (.ofNat 1))]), ((.ofNat 0), [(4, (.ofNat 1))]), ((.ofNat 0), [(5, (.ofNat 1))]), ((.ofNat 0), [(6, (.ofNat 1))]), ((.ofNat 0), [(7, (.ofNat 1))]), ((.ofNat 0), [(8, (.ofNat 1))]), ((.ofNat 0), [(9, (.ofNat 1))]), ((.ofNat 0), [(10, (.ofNat 1))]), ((.ofNat 0), [(11, (.ofNat 1))]), ((.ofNat 0), [(12, (.ofNat 1))])])], [], [(201, [((.ofNat 0), [(0, (.ofNat 1))]), ((.ofNat 11), []), ((.ofNat 0), [(12, (.ofNat 1))])])], [], [], 0, false)
theorem ru_pks3_ok : RuOk ru_pks3 := by
  refine ⟨by decide, fun ρ hp hf => ?_⟩
  have h0 : w213 (ρ 0) (ρ 1) (ρ 2) (ρ 3) (ρ 4) (ρ 5) (ρ 6) (ρ 7) (ρ 8) (ρ 9) (ρ 10) (ρ 11) (ρ 12) := by
    have q : w213 (0 + (1 * ρ 0 + 0)) (0 + (1 * ρ 1 + 0)) (0 + (1 * ρ 2 + 0)) (0 + (1 * ρ 3 + 0)) (0 + (1 * ρ 4 + 0)) (0 + (1 * ρ 5 + 0)) (0 + (1 * ρ 6 + 0)) (0 + (1 * ρ 7 + 0)) (0 + (1 * ρ 8 + 0)) (0 + (1 * ρ 9 + 0)) (0 + (1 * ρ 10 + 0)) (0 + (1 * ρ 11 + 0)) (0 + (1 * ρ 12 + 0)) := hp _ List.mem_cons_self
    simpa only [Int.zero_add, Int.add_zero, Int.one_mul] using q
  clear hp hf
  refine ⟨rfl, ρ, agr2.rf, ?_, ?_⟩
  · refine List.forall_mem_cons.mpr ⟨?_, ?_⟩
    · show w201 (0 + (1 * ρ 0 + 0)) (11 + 0) (0 + (1 * ρ 12 + 0))
      try simp only [Int.zero_add, Int.add_zero, Int.one_mul]
      unfold w213 at h0
      unfold w201
      omega
    · exact fun _ h => (by cases h)
  · exact fun _ h => (by cases h)
noncomputable def ru_pkm10_0 : RU := (14, [(308, [((.ofNat 0), [(0, (.ofNat 1))])]), (213, [((.ofNat 0), [(1, (.ofNat 1))]), ((.ofNat 0), [(2, (.ofNat 1))]), ((.ofNat 0), [(3, (.ofNat 1))]), ((.ofNat 0), [(4, (.ofNat 1))]), ((.ofNat 0), [(5, (.ofNat 1))]), ((.ofNat 0), [(6, (.ofNat 1))]), ((.ofNat 0), [(7, (.ofNat 1))]), ((.ofNat 0), [(8, (.ofNat 1))]), ((.ofNat 0), [(9, (.ofNat 1))]), ((.ofNat 0), [(10, (.ofNat 1))]), ((.ofNat 0), [(11, (.ofNat 1))]), ((.ofNat 0), [(12, (.ofNat 1))]), ((.ofNat 0), [(13, (.ofNat 1))])])], [((.ofNat 0), [(0, (.ofNat 1))]), ((.ofNat 0), [(0, (.negSucc 0))])], [(213, [((.ofNat 0), [(14, (.ofNat 1))]), ((.ofNat 0), [(2, (.ofNat 1))]), ((.ofNat 10), []), ((.ofNat 0), [(4, (.ofNat 1))]), ((.ofNat 0), [(5, (.ofNat 1))]), ((.ofNat 0), [(6, (.ofNat 1))]), ((.ofNat 0), [(7, (.ofNat 1))]), ((.ofNat 0), [(8, (.ofNat 1))]), ((.ofNat 0), [(9, (.ofNat 1))]), ((.ofNat 0), [(10, (.ofNat 1))]), ((.ofNat 0), [(11, (.ofNat 1))]), ((.ofNat 0), [(12, (.ofNat 1))]), ((.ofNat 0), [(13, (.ofNat 1))])]), (202, [((.ofNat 0), [(1, (.ofNat 1))]), ((.ofNat 1), []), ((.ofNat 10), []), ((.ofNat 0), [(14, (.ofNat 1))])])], [], [1], 1, false)
theorem ru_pkm10_0_ok : RuOk ru_pkm10_0 := by
  refine ⟨by decide, fun ρ hp hf => ?_⟩
  have h1 : w213 (ρ 1) (ρ 2) (ρ 3) (ρ 4) (ρ 5) (ρ 6) (ρ 7) (ρ 8) (ρ 9) (ρ 10) (ρ 11) (ρ 12) (ρ 13) := by
    have q : w213 (0 + (1 * ρ 1 + 0)) (0 + (1 * ρ 2 + 0)) (0 + (1 * ρ 3 + 0)) (0 + (1 * ρ 4 + 0)) (0 + (1 * ρ 5 + 0)) (0 + (1 * ρ 6 + 0)) (0 + (1 * ρ 7 + 0)) (0 + (1 * ρ 8 + 0)) (0 + (1 * ρ 9 + 0)) (0 + (1 * ρ 10 + 0)) (0 + (1 * ρ 11 + 0)) (0 + (1 * ρ 12 + 0)) (0 + (1 * ρ 13 + 0)) := hp _ (List.mem_cons_of_mem _ List.mem_cons_self)
    simpa only [Int.zero_add, Int.add_zero, Int.one_mul] using q
  have f0 : (0 + (1 * ρ 0 + 0)) ≤ 0 := hf _ List.mem_cons_self
  have f1 : (0 + ((-1) * ρ 0 + 0)) ≤ 0 := hf _ (List.mem_cons_of_mem _ List.mem_cons_self)
  clear hp hf
  refine ⟨rfl, (ex1 ρ 14 (uX (0 + 1 * (ρ 1)) (1) (10))), (ex1_agr (by decide) agr2.rf), ?_, ?_⟩
  · refine List.forall_mem_cons.mpr ⟨?_, ?_⟩
    · show w213 (0 + (1 * (uX (0 + 1 * (ρ 1)) (1) (10)) + 0)) (0 + (1 * ρ 2 + 0)) (10 + 0) (0 + (1 * ρ 4 + 0)) (0 + (1 * ρ 5 + 0)) (0 + (1 * ρ 6 + 0)) (0 + (1 * ρ 7 + 0)) (0 + (1 * ρ 8 + 0)) (0 + (1 * ρ 9 + 0)) (0 + (1 * ρ 10 + 0)) (0 + (1 * ρ 11 + 0)) (0 + (1 * ρ 12 + 0)) (0 + (1 * ρ 13 + 0))
      try simp only [Int.zero_add, Int.add_zero, Int.one_mul]
      unfold w213 at h1 ⊢
      refine ⟨uX_nn _ _ _ h1.1, ?_⟩
      simp [gX_uX, gX_ne, h1]
    · refine List.forall_mem_cons.mpr ⟨?_, ?_⟩
      · show w202 (0 + (1 * ρ 1 + 0)) (1 + 0) (10 + 0) (0 + (1 * (uX (0 + 1 * (ρ 1)) (1) (10)) + 0))
        try simp only [Int.zero_add, Int.add_zero, Int.one_mul]
        unfold w213 at h1
        unfold w202
        refine ⟨?_, ?_, h1.1⟩
        · simp
        · simpa using uX_nn _ _ _ h1.1
      · exact fun _ h => (by cases h)
  · exact fun _ h => (by cases h)
noncomputable def ru_pks10_0 : RU := (14, [(308, [((.ofNat 0), [(0, (.ofNat 1))])]), (213, [((.ofNat 0), [(1, (.ofNat 1))]), ((.ofNat 0), [(2, (.ofNat 1))]), ((.ofNat 0), [(3, (.ofNat 1))]), ((.ofNat 0), [(4, (.ofNat 1))]), ((.ofNat 0), [(5, (.ofNat 1))]), ((.ofNat 0), [(6, (.ofNat 1))]), ((.ofNat 0), [(7, (.ofNat 1))]), ((.ofNat 0), [(8, (.ofNat 1))]), ((.ofNat 0), [(9, (.ofNat 1))]), ((.ofNat 0), [(10, (.ofNat 1))]), ((.ofNat 0), [(11, (.ofNat 1))]), ((.ofNat 0), [(12, (.ofNat 1))]), ((.ofNat 0), [(13, (.ofNat 1))])])], [((.ofNat 0), [(0, (.ofNat 1))]), ((.ofNat 0), [(0, (.negSucc 0))])], [(213, [((.ofNat 0), [(14, (.ofNat 1))]), ((.ofNat 0), [(2, (.ofNat 1))]), ((.ofNat 0), [(3, (.ofNat 1))]), ((.ofNat 10), []), ((.ofNat 0), [(5, (.ofNat 1))]), ((.ofNat 0), [(6, (.ofNat 1))]), ((.ofNat 0), [(7, (.ofNat 1))]), ((.ofNat 0), [(8, (.ofNat 1))]), ((.ofNat 0), [(9, (.ofNat 1))]), ((.ofNat 0), [(10, (.ofNat 1))]), ((.ofNat 0), [(11, (.ofNat 1))]), ((.ofNat 0), [(12, (.ofNat 1))]), ((.ofNat 0), [(13, (.ofNat 1))])]), (202, [((.ofNat 0), [(1, (.ofNat 1))]), ((.ofNat 2), []), ((.ofNat 10), []), ((.ofNat 0), [(14, (.ofNat 1))])])], [], [1], 1, false)
theorem ru_pks10_0_ok : RuOk ru_pks10_0 := by
  refine ⟨by decide, fun ρ hp hf => ?_⟩
  have h1 : w213 (ρ 1) (ρ 2) (ρ 3) (ρ 4) (ρ 5) (ρ 6) (ρ 7) (ρ 8) (ρ 9) (ρ 10) (ρ 11) (ρ 12) (ρ 13) := by
    have q : w213 (0 + (1 * ρ 1 + 0)) (0 + (1 * ρ 2 + 0)) (0 + (1 * ρ 3 + 0)) (0 + (1 * ρ 4 + 0)) (0 + (1 * ρ 5 + 0)) (0 + (1 * ρ 6 + 0)) (0 + (1 * ρ 7 + 0)) (0 + (1 * ρ 8 + 0)) (0 + (1 * ρ 9 + 0)) (0 + (1 * ρ 10 + 0)) (0 + (1 * ρ 11 + 0)) (0 + (1 * ρ 12 + 0)) (0 + (1 * ρ 13 + 0)) := hp _ (List.mem_cons_of_mem _ List.mem_cons_self)
    simpa only [Int.zero_add, Int.add_zero, Int.one_mul] using q
  have f0 : (0 + (1 * ρ 0 + 0)) ≤ 0 := hf _ List.mem_cons_self
  have f1 : (0 + ((-1) * ρ 0 + 0)) ≤ 0 := hf _ (List.mem_cons_of_mem _ List.mem_cons_self)
  clear hp hf
  refine ⟨rfl, (ex1 ρ 14 (uX (0 + 1 * (ρ 1)) (2) (10))), (ex1_agr (by decide) agr2.rf), ?_, ?_⟩
  · refine List.forall_mem_cons.mpr ⟨?_, ?_⟩
    · show w213 (0 + (1 * (uX (0 + 1 * (ρ 1)) (2) (10)) + 0)) (0 + (1 * ρ 2 + 0)) (0 + (1 * ρ 3 + 0)) (10 + 0) (0 + (1 * ρ 5 + 0)) (0 + (1 * ρ 6 + 0)) (0 + (1 * ρ 7 + 0)) (0 + (1 * ρ 8 + 0)) (0 + (1 * ρ 9 + 0)) (0 + (1 * ρ 10 + 0)) (0 + (1 * ρ 11 + 0)) (0 + (1 * ρ 12 + 0)) (0 + (1 * ρ 13 + 0))
      try simp only [Int.zero_add, Int.add_zero, Int.one_mul]
      unfold w213 at h1 ⊢
      refine ⟨uX_nn _ _ _ h1.1, ?_⟩
      simp [gX_uX, gX_ne, h1]
    · refine List.forall_mem_cons.mpr ⟨?_, ?_⟩
      · show w202 (0 + (1 * ρ 1 + 0)) (2 + 0) (10 + 0) (0 + (1 * (uX (0 + 1 * (ρ 1)) (2) (10)) + 0))
        try simp only [Int.zero_add, Int.add_zero, Int.one_mul]
        unfold w213 at h1
        unfold w202
        refine ⟨?_, ?_, h1.1⟩
        · simp
        · simpa using uX_nn _ _ _ h1.1
      · exact fun _ h => (by cases h)
  · exact fun _ h => (by cases h)
noncomputable def ru_pkm10_1 : RU := (14, [(308, [((.ofNat 0), [(0, (.ofNat 1))])]), (213, [((.ofNat 0), [(1, (.ofNat 1))]), ((.ofNat 0), [(2, (.ofNat 1))]), ((.ofNat 0), [(3, (.ofNat 1))]), ((.ofNat 0), [(4, (.ofNat 1))]), ((.ofNat 0), [(5, (.ofNat 1))]), ((.ofNat 0), [(6, (.ofNat 1))]), ((.ofNat 0), [(7, (.ofNat 1))]), ((.ofNat 0), [(8, (.ofNat 1))]), ((.ofNat 0), [(9, (.ofNat 1))]), ((.ofNat 0), [(10, (.ofNat 1))]), ((.ofNat 0), [(11, (.ofNat 1))]), ((.ofNat 0), [(12, (.ofNat 1))]), ((.ofNat 0), [(13, (.ofNat 1))])])], [((.negSucc 0), [(0, (.ofNat 1))]), ((.ofNat 1), [(0, (.negSucc 0))])], [(213, [((.ofNat 0), [(14, (.ofNat 1))]), ((.ofNat 0), [(2, (.ofNat 1))]), ((.ofNat 0), [(3, (.ofNat 1))]), ((.ofNat 0), [(4, (.ofNat 1))]), ((.ofNat 0), [(5, (.ofNat 1))]), ((.ofNat 10), []), ((.ofNat 0), [(7, (.ofNat 1))]), ((.ofNat 0), [(8, (.ofNat 1))]), ((.ofNat 0), [(9, (.ofNat 1))]), ((.ofNat 0), [(10, (.ofNat 1))]), ((.ofNat 0), [(11, (.ofNat 1))]), ((.ofNat 0), [(12, (.ofNat 1))]), ((.ofNat 0), [(13, (.ofNat 1))])]), (202, [((.ofNat 0), [(1, (.ofNat 1))]), ((.ofNat 4), []), ((.ofNat 10), []), ((.ofNat 0), [(14, (.ofNat 1))])])], [], [1], 1, false)
theorem ru_pkm10_1_ok : RuOk ru_pkm10_1 := by
  refine ⟨by decide, fun ρ hp hf => ?_⟩
  have h1 : w213 (ρ 1) (ρ 2) (ρ 3) (ρ 4) (ρ 5) (ρ 6) (ρ 7) (ρ 8) (ρ 9) (ρ 10) (ρ 11) (ρ 12) (ρ 13) := by
    have q : w213 (0 + (1 * ρ 1 + 0)) (0 + (1 * ρ 2 + 0)) (0 + (1 * ρ 3 + 0)) (0 + (1 * ρ 4 + 0)) (0 + (1 * ρ 5 + 0)) (0 + (1 * ρ 6 + 0)) (0 + (1 * ρ 7 + 0)) (0 + (1 * ρ 8 + 0)) (0 + (1 * ρ 9 + 0)) (0 + (1 * ρ 10 + 0)) (0 + (1 * ρ 11 + 0)) (0 + (1 * ρ 12 + 0)) (0 + (1 * ρ 13 + 0)) := hp _ (List.mem_cons_of_mem _ List.mem_cons_self)
    simpa only [Int.zero_add, Int.add_zero, Int.one_mul] using q
  have f0 : ((-1) + (1 * ρ 0 + 0)) ≤ 0 := hf _ List.mem_cons_self
  have f1 : (1 + ((-1) * ρ 0 + 0)) ≤ 0 := hf _ (List.mem_cons_of_mem _ List.mem_cons_self)
  clear hp hf
  refine ⟨rfl, (ex1 ρ 14 (uX (0 + 1 * (ρ 1)) (4) (10))), (ex1_agr (by decide) agr2.rf), ?_, ?_⟩
  · refine List.forall_mem_cons.mpr ⟨?_, ?_⟩
    · show w213 (0 + (1 * (uX (0 + 1 * (ρ 1)) (4) (10)) + 0)) (0 + (1 * ρ 2 + 0)) (0 + (1 * ρ 3 + 0)) (0 + (1 * ρ 4 + 0)) (0 + (1 * ρ 5 + 0)) (10 + 0) (0 + (1 * ρ 7 + 0)) (0 + (1 * ρ 8 + 0)) (0 + (1 * ρ 9 + 0)) (0 + (1 * ρ 10 + 0)) (0 + (1 * ρ 11 + 0)) (0 + (1 * ρ 12 + 0)) (0 + (1 * ρ 13 + 0))
      try simp only [Int.zero_add, Int.add_zero, Int.one_mul]
      unfold w213 at h1 ⊢
      refine ⟨uX_nn _ _ _ h1.1, ?_⟩
      simp [gX_uX, gX_ne, h1]
    · refine List.forall_mem_cons.mpr ⟨?_, ?_⟩
      · show w202 (0 + (1 * ρ 1 + 0)) (4 + 0) (10 + 0) (0 + (1 * (uX (0 + 1 * (ρ 1)) (4) (10)) + 0))
        try simp only [Int.zero_add, Int.add_zero, Int.one_mul]
        unfold w213 at h1
        unfold w202
        refine ⟨?_, ?_, h1.1⟩
        · simp
        · simpa using uX_nn _ _ _ h1.1
      · exact fun _ h => (by cases h)
  · exact fun _ h => (by cases h)
noncomputable def ru_pks10_1 : RU := (14, [(308, [((.ofNat 0), [(0, (.ofNat 1))])]), (213, [((.ofNat 0), [(1, (.ofNat 1))]), ((.ofNat 0), [(2, (.ofNat 1))]), ((.ofNat 0), [(3, (.ofNat 1))]), ((.ofNat 0), [(4, (.ofNat 1))]), ((.ofNat 0), [(5, (.ofNat 1))]), ((.ofNat 0), [(6, (.ofNat 1))]), ((.ofNat 0), [(7, (.ofNat 1))]), ((.ofNat 0), [(8, (.ofNat 1))]), ((.ofNat 0), [(9, (.ofNat 1))]), ((.ofNat 0), [(10, (.ofNat 1))]), ((.ofNat 0), [(11, (.ofNat 1))]), ((.ofNat 0), [(12, (.ofNat 1))]), ((.ofNat 0), [(13, (.ofNat 1))])])], [((.negSucc 0), [(0, (.ofNat 1))]), ((.ofNat 1), [(0, (.negSucc 0))])], [(213, [((.ofNat 0), [(14, (.ofNat 1))]), ((.ofNat 0), [(2, (.ofNat 1))]), ((.ofNat 0), [(3, (.ofNat 1))]), ((.ofNat 0), [(4, (.ofNat 1))]), ((.ofNat 0), [(5, (.ofNat 1))]), ((.ofNat 0), [(6, (.ofNat 1))]), ((.ofNat 10), []), ((.ofNat 0), [(8, (.ofNat 1))]), ((.ofNat 0), [(9, (.ofNat 1))]), ((.ofNat 0), [(10, (.ofNat 1))]), ((.ofNat 0), [(11, (.ofNat 1))]), ((.ofNat 0), [(12, (.ofNat 1))]), ((.ofNat 0), [(13, (.ofNat 1))])]), (202, [((.ofNat 0), [(1, (.ofNat 1))]), ((.ofNat 5), []), ((.ofNat 10), []), ((.ofNat 0), [(14, (.ofNat 1))])])], [], [1], 1, false)
theorem ru_pks10_1_ok : RuOk ru_pks10_1 := by
  refine ⟨by decide, fun ρ hp hf => ?_⟩
  have h1 : w213 (ρ 1) (ρ 2) (ρ 3) (ρ 4) (ρ 5) (ρ 6) (ρ 7) (ρ 8) (ρ 9) (ρ 10) (ρ 11) (ρ 12) (ρ 13) := by
    have q : w213 (0 + (1 * ρ 1 + 0)) (0 + (1 * ρ 2 + 0)) (0 + (1 * ρ 3 + 0)) (0 + (1 * ρ 4 + 0)) (0 + (1 * ρ 5 + 0)) (0 + (1 * ρ 6 + 0)) (0 + (1 * ρ 7 + 0)) (0 + (1 * ρ 8 + 0)) (0 + (1 * ρ 9 + 0)) (0 + (1 * ρ 10 + 0)) (0 + (1 * ρ 11 + 0)) (0 + (1 * ρ 12 + 0)) (0 + (1 * ρ 13 + 0)) := hp _ (List.mem_cons_of_mem _ List.mem_cons_self)
    simpa only [Int.zero_add, Int.add_zero, Int.one_mul] using q
  have f0 : ((-1) + (1 * ρ 0 + 0)) ≤ 0 := hf _ List.mem_cons_self
  have f1 : (1 + ((-1) * ρ 0 + 0)) ≤ 0 := hf _ (List.mem_cons_of_mem _ List.mem_cons_self)
  clear hp hf
  refine ⟨rfl, (ex1 ρ 14 (uX (0 + 1 * (ρ 1)) (5) (10))), (ex1_agr (by decide) agr2.rf), ?_, ?_⟩
  · refine List.forall_mem_cons.mpr ⟨?_, ?_⟩
    · show w213 (0 + (1 * (uX (0 + 1 * (ρ 1)) (5) (10)) + 0)) (0 + (1 * ρ 2 + 0)) (0 + (1 * ρ 3 + 0)) (0 + (1 * ρ 4 + 0)) (0 + (1 * ρ 5 + 0)) (0 + (1 * ρ 6 + 0)) (10 + 0) (0 + (1 * ρ 8 + 0)) (0 + (1 * ρ 9 + 0)) (0 + (1 * ρ 10 + 0)) (0 + (1 * ρ 11 + 0)) (0 + (1 * ρ 12 + 0)) (0 + (1 * ρ 13 + 0))
      try simp only [Int.zero_add, Int.add_zero, Int.one_mul]
      unfold w213 at h1 ⊢
      refine ⟨uX_nn _ _ _ h1.1, ?_⟩
      simp [gX_uX, gX_ne, h1]
    · refine List.forall_mem_cons.mpr ⟨?_, ?_⟩
      · show w202 (0 + (1 * ρ 1 + 0)) (5 + 0) (10 + 0) (0 + (1 * (uX (0 + 1 * (ρ 1)) (5) (10)) + 0))
        try simp only [Int.zero_add, Int.add_zero, Int.one_mul]
        unfold w213 at h1
        unfold w202
        refine ⟨?_, ?_, h1.1⟩
        · simp
        · simpa using uX_nn _ _ _ h1.1
      · exact fun _ h => (by cases h)
  · exact fun _ h => (by cases h)
noncomputable def ru_pkm10_2 : RU := (14, [(308, [((.ofNat 0), [(0, (.ofNat 1))])]), (213, [((.ofNat 0), [(1, (.ofNat 1))]), ((.ofNat 0), [(2, (.ofNat 1))]), ((.ofNat 0), [(3, (.ofNat 1))]), ((.ofNat 0), [(4, (.ofNat 1))]), ((.ofNat 0), [(5, (.ofNat 1))]), ((.ofNat 0), [(6, (.ofNat 1))]), ((.ofNat 0), [(7, (.ofNat 1))]), ((.ofNat 0), [(8, (.ofNat 1))]), ((.ofNat 0), [(9, (.ofNat 1))]), ((.ofNat 0), [(10, (.ofNat 1))]), ((.ofNat 0), [(11, (.ofNat 1))]), ((.ofNat 0), [(12, (.ofNat 1))]), ((.ofNat 0), [(13, (.ofNat 1))])])], [((.negSucc 1), [(0, (.ofNat 1))]), ((.ofNat 2), [(0, (.negSucc 0))])], [(213, [((.ofNat 0), [(14, (.ofNat 1))]), ((.ofNat 0), [(2, (.ofNat 1))]), ((.ofNat 0), [(3, (.ofNat 1))]), ((.ofNat 0), [(4, (.ofNat 1))]), ((.ofNat 0), [(5, (.ofNat 1))]), ((.ofNat 0), [(6, (.ofNat 1))]), ((.ofNat 0), [(7, (.ofNat 1))]), ((.ofNat 0), [(8, (.ofNat 1))]), ((.ofNat 10), []), ((.ofNat 0), [(10, (.ofNat 1))]), ((.ofNat 0), [(11, (.ofNat 1))]), ((.ofNat 0), [(12, (.ofNat 1))]), ((.ofNat 0), [(13, (.ofNat 1))])]), (202, [((.ofNat 0), [(1, (.ofNat 1))]), ((.ofNat 7), []), ((.ofNat 10), []), ((.ofNat 0), [(14, (.ofNat 1))])])], [], [1], 1, false)
theorem ru_pkm10_2_ok : RuOk ru_pkm10_2 := by
  refine ⟨by decide, fun ρ hp hf => ?_⟩
  have h1 : w213 (ρ 1) (ρ 2) (ρ 3) (ρ 4) (ρ 5) (ρ 6) (ρ 7) (ρ 8) (ρ 9) (ρ 10) (ρ 11) (ρ 12) (ρ 13) := by
    have q : w213 (0 + (1 * ρ 1 + 0)) (0 + (1 * ρ 2 + 0)) (0 + (1 * ρ 3 + 0)) (0 + (1 * ρ 4 + 0)) (0 + (1 * ρ 5 + 0)) (0 + (1 * ρ 6 + 0)) (0 + (1 * ρ 7 + 0)) (0 + (1 * ρ 8 + 0)) (0 + (1 * ρ 9 + 0)) (0 + (1 * ρ 10 + 0)) (0 + (1 * ρ 11 + 0)) (0 + (1 * ρ 12 + 0)) (0 + (1 * ρ 13 + 0)) := hp _ (List.mem_cons_of_mem _ List.mem_cons_self)
    simpa only [Int.zero_add, Int.add_zero, Int.one_mul] using q
  have f0 : ((-2) + (1 * ρ 0 + 0)) ≤ 0 := hf _ List.mem_cons_self
  have f1 : (2 + ((-1) * ρ 0 + 0)) ≤ 0 := hf _ (List.mem_cons_of_mem _ List.mem_cons_self)
  clear hp hf
  refine ⟨rfl, (ex1 ρ 14 (uX (0 + 1 * (ρ 1)) (7) (10))), (ex1_agr (by decide) agr2.rf), ?_, ?_⟩
  · refine List.forall_mem_cons.mpr ⟨?_, ?_⟩
    · show w213 (0 + (1 * (uX (0 + 1 * (ρ 1)) (7) (10)) + 0)) (0 + (1 * ρ 2 + 0)) (0 + (1 * ρ 3 + 0)) (0 + (1 * ρ 4 + 0)) (0 + (1 * ρ 5 + 0)) (0 + (1 * ρ 6 + 0)) (0 + (1 * ρ 7 + 0)) (0 + (1 * ρ 8 + 0)) (10 + 0) (0 + (1 * ρ 10 + 0)) (0 + (1 * ρ 11 + 0)) (0 + (1 * ρ 12 + 0)) (0 + (1 * ρ 13 + 0))
      try simp only [Int.zero_add, Int.add_zero, Int.one_mul]
      unfold w213 at h1 ⊢
      refine ⟨uX_nn _ _ _ h1.1, ?_⟩
      simp [gX_uX, gX_ne, h1]
    · refine List.forall_mem_cons.mpr ⟨?_, ?_⟩
      · show w202 (0 + (1 * ρ 1 + 0)) (7 + 0) (10 + 0) (0 + (1 * (uX (0 + 1 * (ρ 1)) (7) (10)) + 0))
        try simp only [Int.zero_add, Int.add_zero, Int.one_mul]
        unfold w213 at h1
        unfold w202
        refine ⟨?_, ?_, h1.1⟩
        · simp
        · simpa using uX_nn _ _ _ h1.1
      · exact fun _ h => (by cases h)
  · exact fun _ h => (by cases h)
noncomputable def ru_pks10_2 : RU := (14, [(308, [((.ofNat 0), [(0, (.ofNat 1))])]), (213, [((.ofNat 0), [(1, (.ofNat 1))]), ((.ofNat 0), [(2, (.ofNat 1))]), ((.ofNat 0), [(3, (.ofNat 1))]), ((.ofNat 0), [(4, (.ofNat 1))]), ((.ofNat 0), [(5, (.ofNat 1))]), ((.ofNat 0), [(6, (.ofNat 1))]), ((.ofNat 0), [(7, (.ofNat 1))]), ((.ofNat 0), [(8, (.ofNat 1))]), ((.ofNat 0), [(9, (.ofNat 1))]), ((.ofNat 0), [(10, (.ofNat 1))]), ((.ofNat 0), [(11, (.ofNat 1))]), ((.ofNat 0), [(12, (.ofNat 1))]), ((.ofNat 0), [(13, (.ofNat 1))])])], [((.negSucc 1), [(0, (.ofNat 1))]), ((.ofNat 2), [(0, (.negSucc 0))])], [(213, [((.ofNat 0), [(14, (.ofNat 1))]), ((.ofNat 0), [(2, (.ofNat 1))]), ((.ofNat 0), [(3, (.ofNat 1))]), ((.ofNat 0), [(4, (.ofNat 1))]), ((.ofNat 0), [(5, (.ofNat 1))]), ((.ofNat 0), [(6, (.ofNat 1))]), ((.ofNat 0), [(7, (.ofNat 1))]), ((.ofNat 0), [(8, (.ofNat 1))]), ((.ofNat 0), [(9, (.ofNat 1))]), ((.ofNat 10), []), ((.ofNat 0), [(11, (.ofNat 1))]), ((.ofNat 0), [(12, (.ofNat 1))]), ((.ofNat 0), [(13, (.ofNat 1))])]), (202, [((.ofNat 0), [(1, (.ofNat 1))]), ((.ofNat 8), []), ((.ofNat 10), []), ((.ofNat 0), [(14, (.ofNat 1))])])], [], [1], 1, false)
theorem ru_pks10_2_ok : RuOk ru_pks10_2 := by
  refine ⟨by decide, fun ρ hp hf => ?_⟩
  have h1 : w213 (ρ 1) (ρ 2) (ρ 3) (ρ 4) (ρ 5) (ρ 6) (ρ 7) (ρ 8) (ρ 9) (ρ 10) (ρ 11) (ρ 12) (ρ 13) := by
    have q : w213 (0 + (1 * ρ 1 + 0)) (0 + (1 * ρ 2 + 0)) (0 + (1 * ρ 3 + 0)) (0 + (1 * ρ 4 + 0)) (0 + (1 * ρ 5 + 0)) (0 + (1 * ρ 6 + 0)) (0 + (1 * ρ 7 + 0)) (0 + (1 * ρ 8 + 0)) (0 + (1 * ρ 9 + 0)) (0 + (1 * ρ 10 + 0)) (0 + (1 * ρ 11 + 0)) (0 + (1 * ρ 12 + 0)) (0 + (1 * ρ 13 + 0)) := hp _ (List.mem_cons_of_mem _ List.mem_cons_self)
    simpa only [Int.zero_add, Int.add_zero, Int.one_mul] using q
  have f0 : ((-2) + (1 * ρ 0 + 0)) ≤ 0 := hf _ List.mem_cons_self
  have f1 : (2 + ((-1) * ρ 0 + 0)) ≤ 0 := hf _ (List.mem_cons_of_mem _ List.mem_cons_self)
  clear hp hf
  refine ⟨rfl, (ex1 ρ 14 (uX (0 + 1 * (ρ 1)) (8) (10))), (ex1_agr (by decide) agr2.rf), ?_, ?_⟩
  · refine List.forall_mem_cons.mpr ⟨?_, ?_⟩
    · show w213 (0 + (1 * (uX (0 + 1 * (ρ 1)) (8) (10)) + 0)) (0 + (1 * ρ 2 + 0)) (0 + (1 * ρ 3 + 0)) (0 + (1 * ρ 4 + 0)) (0 + (1 * ρ 5 + 0)) (0 + (1 * ρ 6 + 0)) (0 + (1 * ρ 7 + 0)) (0 + (1 * ρ 8 + 0)) (0 + (1 * ρ 9 + 0)) (10 + 0) (0 + (1 * ρ 11 + 0)) (0 + (1 * ρ 12 + 0)) (0 + (1 * ρ 13 + 0))
      try simp only [Int.zero_add, Int.add_zero, Int.one_mul]
      unfold w213 at h1 ⊢
      refine ⟨uX_nn _ _ _ h1.1, ?_⟩
      simp [gX_uX, gX_ne, h1]
    · refine List.forall_mem_cons.mpr ⟨?_, ?_⟩
      · show w202 (0 + (1 * ρ 1 + 0)) (8 + 0) (10 + 0) (0 + (1 * (uX (0 + 1 * (ρ 1)) (8) (10)) + 0))
        try simp only [Int.zero_add, Int.add_zero, Int.one_mul]
        unfold w213 at h1
        unfold w202
        refine ⟨?_, ?_, h1.1⟩
        · simp
        · simpa using uX_nn _ _ _ h1.1
      · exact fun _ h => (by cases h)
  · exact fun _ h => (by cases h)
noncomputable def ru_pkm10_3 : RU := (14, [(308, [((.ofNat 0), [(0, (.ofNat 1))])]), (213, [((.ofNat 0), [(1, (.ofNat 1))]), ((.ofNat 0), [(2, (.ofNat 1))]), ((.ofNat 0), [(3, (.ofNat 1))]), ((.ofNat 0), [(4, (.ofNat 1))]), ((.ofNat 0), [(5, (.ofNat 1))]), ((.ofNat 0), [(6, (.ofNat 1))]), ((.ofNat 0), [(7, (.ofNat 1))]), ((.ofNat 0), [(8, (.ofNat 1))]), ((.ofNat 0), [(9, (.ofNat 1))]), ((.ofNat 0), [(10, (.ofNat 1))]), ((.ofNat 0), [(11, (.ofNat 1))]), ((.ofNat 0), [(12, (.ofNat 1))]), ((.ofNat 0), [(13, (.ofNat 1))])])], [((.negSucc 2), [(0, (.ofNat 1))]), ((.ofNat 3), [(0, (.negSucc 0))])], [(213, [((.ofNat 0), [(14, (.ofNat 1))]), ((.ofNat 0), [(2, (.ofNat 1))]), ((.ofNat 0), [(3, (.ofNat 1))]), ((.ofNat 0), [(4, (.ofNat 1))]), ((.ofNat 0), [(5, (.ofNat 1))]), ((.ofNat 0), [(6, (.ofNat 1))]), ((.ofNat 0), [(7, (.ofNat 1))]), ((.ofNat 0), [(8, (.ofNat 1))]), ((.ofNat 0), [(9, (.ofNat 1))]), ((.ofNat 0), [(10, (.ofNat 1))]), ((.ofNat 0), [(11, (.ofNat 1))]), ((.ofNat 10), []), ((.ofNat 0), [(13, (.ofNat 1))])]), (202, [((.ofNat 0), [(1, (.ofNat 1))]), ((.ofNat 10), []), ((.ofNat 10), []), ((.ofNat 0), [(14, (.ofNat 1))])])], [], [1], 1, false)
theorem ru_pkm10_3_ok : RuOk ru_pkm10_3 := by
  refine ⟨by decide, fun ρ hp hf => ?_⟩
  have h1 : w213 (ρ 1) (ρ 2) (ρ 3) (ρ 4) (ρ 5) (ρ 6) (ρ 7) (ρ 8) (ρ 9) (ρ 10) (ρ 11) (ρ 12) (ρ 13) := by
    have q : w213 (0 + (1 * ρ 1 + 0)) (0 + (1 * ρ 2 + 0)) (0 + (1 * ρ 3 + 0)) (0 + (1 * ρ 4 + 0)) (0 + (1 * ρ 5 + 0)) (0 + (1 * ρ 6 + 0)) (0 + (1 * ρ 7 + 0)) (0 + (1 * ρ 8 + 0)) (0 + (1 * ρ 9 + 0)) (0 + (1 * ρ 10 + 0)) (0 + (1 * ρ 11 + 0)) (0 + (1 * ρ 12 + 0)) (0 + (1 * ρ 13 + 0)) := hp _ (List.mem_cons_of_mem _ List.mem_cons_self)
    simpa only [Int.zero_add, Int.add_zero, Int.one_mul] using q
  have f0 : ((-3) + (1 * ρ 0 + 0)) ≤ 0 := hf _ List.mem_cons_self
  have f1 : (3 + ((-1) * ρ 0 + 0)) ≤ 0 := hf _ (List.mem_cons_of_mem _ List.mem_cons_self)
  clear hp hf
  refine ⟨rfl, (ex1 ρ 14 (uX (0 + 1 * (ρ 1)) (10) (10))), (ex1_agr (by decide) agr2.rf), ?_, ?_⟩
  · refine List.forall_mem_cons.mpr ⟨?_, ?_⟩
    · show w213 (0 + (1 * (uX (0 + 1 * (ρ 1)) (10) (10)) + 0)) (0 + (1 * ρ 2 + 0)) (0 + (1 * ρ 3 + 0)) (0 + (1 * ρ 4 + 0)) (0 + (1 * ρ 5 + 0)) (0 + (1 * ρ 6 + 0)) (0 + (1 * ρ 7 + 0)) (0 + (1 * ρ 8 + 0)) (0 + (1 * ρ 9 + 0)) (0 + (1 * ρ 10 + 0)) (0 + (1 * ρ 11 + 0)) (10 + 0) (0 + (1 * ρ 13 + 0))
      try simp only [Int.zero_add, Int.add_zero, Int.one_mul]
      unfold w213 at h1 ⊢
      refine ⟨uX_nn _ _ _ h1.1, ?_⟩
      simp [gX_uX, gX_ne, h1]
    · refine List.forall_mem_cons.mpr ⟨?_, ?_⟩
      · show w202 (0 + (1 * ρ 1 + 0)) (10 + 0) (10 + 0) (0 + (1 * (uX (0 + 1 * (ρ 1)) (10) (10)) + 0))
        try simp only [Int.zero_add, Int.add_zero, Int.one_mul]
        unfold w213 at h1
        unfold w202
        refine ⟨?_, ?_, h1.1⟩
        · simp
        · simpa using uX_nn _ _ _ h1.1
      · exact fun _ h => (by cases h)
  · exact fun _ h => (by cases h)
noncomputable def ru_pks10_3 : RU := (14, [(308, [((.ofNat 0), [(0, (.ofNat 1))])]), (213, [((.ofNat 0), [(1, (.ofNat 1))]), ((.ofNat 0), [(2, (.ofNat 1))]), ((.ofNat 0), [(3, (.ofNat 1))]), ((.ofNat 0), [(4, (.ofNat 1))]), ((.ofNat 0), [(5, (.ofNat 1))]), ((.ofNat 0), [(6, (.ofNat 1))]), ((.ofNat 0), [(7, (.ofNat 1))]), ((.ofNat 0), [(8, (.ofNat 1))]), ((.ofNat 0), [(9, (.ofNat 1))]), ((.ofNat 0), [(10, (.ofNat 1))]), ((.ofNat 0), [(11, (.ofNat 1))]), ((.ofNat 0), [(12, (.ofNat 1))]), ((.ofNat 0), [(13, (.ofNat 1))])])], [((.negSucc 2), [(0, (.ofNat 1))]), ((.ofNat 3), [(0, (.negSucc 0))])], [(213, [((.ofNat 0), [(14, (.ofNat 1))]), ((.ofNat 0), [(2, (.ofNat 1))]), ((.ofNat 0), [(3, (.ofNat 1))]), ((.ofNat 0), [(4, (.ofNat 1))]), ((.ofNat 0), [(5, (.ofNat 1))]), ((.ofNat 0), [(6, (.ofNat 1))]), ((.ofNat 0), [(7, (.ofNat 1))]), ((.ofNat 0), [(8, (.ofNat 1))]), ((.ofNat 0), [(9, (.ofNat 1))]), ((.ofNat 0), [(10, (.ofNat 1))]), ((.ofNat 0), [(11, (.ofNat 1))]), ((.ofNat 0), [(12, (.ofNat 1))]), ((.ofNat 10), [])]), (202, [((.ofNat 0), [(1, (.ofNat 1))]), ((.ofNat 11), []), ((.ofNat 10), []), ((.ofNat 0), [(14, (.ofNat 1))])])], [], [1], 1, false)
theorem ru_pks10_3_ok : RuOk ru_pks10_3 := by
  refine ⟨by decide, fun ρ hp hf => ?_⟩
  have h1 : w213 (ρ 1) (ρ 2) (ρ 3) (ρ 4) (ρ 5) (ρ 6) (ρ 7) (ρ 8) (ρ 9) (ρ 10) (ρ 11) (ρ 12) (ρ 13) := by
    have q : w213 (0 + (1 * ρ 1 + 0)) (0 + (1 * ρ 2 + 0)) (0 + (1 * ρ 3 + 0)) (0 + (1 * ρ 4 + 0)) (0 + (1 * ρ 5 + 0)) (0 + (1 * ρ 6 + 0)) (0 + (1 * ρ 7 + 0)) (0 + (1 * ρ 8 + 0)) (0 + (1 * ρ 9 + 0)) (0 + (1 * ρ 10 + 0)) (0 + (1 * ρ 11 + 0)) (0 + (1 * ρ 12 + 0)) (0 + (1 * ρ 13 + 0)) := hp _ (List.mem_cons_of_mem _ List.mem_cons_self)
    simpa only [Int.zero_add, Int.add_zero, Int.one_mul] using q
  have f0 : ((-3) + (1 * ρ 0 + 0)) ≤ 0 := hf _ List.mem_cons_self
  have f1 : (3 + ((-1) * ρ 0 + 0)) ≤ 0 := hf _ (List.mem_cons_of_mem _ List.mem_cons_self)
  clear hp hf
  refine ⟨rfl, (ex1 ρ 14 (uX (0 + 1 * (ρ 1)) (11) (10))), (ex1_agr (by decide) agr2.rf), ?_, ?_⟩
  · refine List.forall_mem_cons.mpr ⟨?_, ?_⟩
    · show w213 (0 + (1 * (uX (0 + 1 * (ρ 1)) (11) (10)) + 0)) (0 + (1 * ρ 2 + 0)) (0 + (1 * ρ 3 + 0)) (0 + (1 * ρ 4 + 0)) (0 + (1 * ρ 5 + 0)) (0 + (1 * ρ 6 + 0)) (0 + (1 * ρ 7 + 0)) (0 + (1 * ρ 8 + 0)) (0 + (1 * ρ 9 + 0)) (0 + (1 * ρ 10 + 0)) (0 + (1 * ρ 11 + 0)) (0 + (1 * ρ 12 + 0)) (10 + 0)
      try simp only [Int.zero_add, Int.add_zero, Int.one_mul]
      unfold w213 at h1 ⊢
      refine ⟨uX_nn _ _ _ h1.1, ?_⟩
      simp [gX_uX, gX_ne, h1]
    · refine List.forall_mem_cons.mpr ⟨?_, ?_⟩
      · show w202 (0 + (1 * ρ 1 + 0)) (11 + 0) (10 + 0) (0 + (1 * (uX (0 + 1 * (ρ 1)) (11) (10)) + 0))
        try simp only [Int.zero_add, Int.add_zero, Int.one_mul]
        unfold w213 at h1
        unfold w202
        refine ⟨?_, ?_, h1.1⟩
        · simp
        · simpa using uX_nn _ _ _ h1.1
      · exact fun _ h => (by cases h)
  · exact fun _ h => (by cases h)
noncomputable def ru_elx : RU := (4, [(201, [((.ofNat 0), [(0, (.ofNat 1))]), ((.ofNat 0), [(1, (.ofNat 1))]), ((.ofNat 0), [(2, (.ofNat 1))])]), (201, [((.ofNat 0), [(0, (.ofNat 1))]), ((.ofNat 0), [(1, (.ofNat 1))]), ((.ofNat 0), [(3, (.ofNat 1))])])], [((.ofNat 1), [(2, (.ofNat 1)), (3, (.negSucc 0))])], [], [], [], 0, true)
theorem ru_elx_ok : RuOk ru_elx := by
  refine ⟨by decide, fun ρ hp hf => ?_⟩
  have h0 : w201 (ρ 0) (ρ 1) (ρ 2) := by
    have q : w201 (0 + (1 * ρ 0 + 0)) (0 + (1 * ρ 1 + 0)) (0 + (1 * ρ 2 + 0)) := hp _ List.mem_cons_self
    simpa only [Int.zero_add, Int.add_zero, Int.one_mul] using q
  have h1 : w201 (ρ 0) (ρ 1) (ρ 3) := by
    have q : w201 (0 + (1 * ρ 0 + 0)) (0 + (1 * ρ 1 + 0)) (0 + (1 * ρ 3 + 0)) := hp _ (List.mem_cons_of_mem _ List.mem_cons_self)
    simpa only [Int.zero_add, Int.add_zero, Int.one_mul] using q
  have f0 : (1 + (1 * ρ 2 + ((-1) * ρ 3 + 0))) ≤ 0 := hf _ List.mem_cons_self
  clear hp hf
  exfalso
  unfold w201 at h0 h1
  omega
noncomputable def ru_ele : RU := (4, [(201, [((.ofNat 0), [(0, (.ofNat 1))]), ((.ofNat 0), [(1, (.ofNat 1))]), ((.ofNat 0), [(2, (.ofNat 1))])]), (201, [((.ofNat 0), [(0, (.ofNat 1))]), ((.ofNat 0), [(1, (.ofNat 1))]), ((.ofNat 0), [(3, (.ofNat 1))])])], [], [], [((.ofNat 0), [(2, (.ofNat 1)), (3, (.negSucc 0))]), ((.ofNat 0), [(2, (.negSucc 0)), (3, (.ofNat 1))])], [], 0, false)
theorem ru_ele_ok : RuOk ru_ele := by
  refine ⟨by decide, fun ρ hp hf => ?_⟩
  have h0 : w201 (ρ 0) (ρ 1) (ρ 2) := by
    have q : w201 (0 + (1 * ρ 0 + 0)) (0 + (1 * ρ 1 + 0)) (0 + (1 * ρ 2 + 0)) := hp _ List.mem_cons_self
    simpa only [Int.zero_add, Int.add_zero, Int.one_mul] using q
  have h1 : w201 (ρ 0) (ρ 1) (ρ 3) := by
    have q : w201 (0 + (1 * ρ 0 + 0)) (0 + (1 * ρ 1 + 0)) (0 + (1 * ρ 3 + 0)) := hp _ (List.mem_cons_of_mem _ List.mem_cons_self)
    simpa only [Int.zero_add, Int.add_zero, Int.one_mul] using q
  clear hp hf
  refine ⟨rfl, ρ, agr2.rf, ?_, ?_⟩
  · exact fun _ h => (by cases h)
  · refine List.forall_mem_cons.mpr ⟨?_, ?_⟩
    · show (0 + (1 * ρ 2 + ((-1) * ρ 3 + 0))) ≤ 0
      try simp only [Int.zero_add, Int.add_zero, Int.one_mul]
      unfold w201 at h0 h1
      omega
    · refine List.forall_mem_cons.mpr ⟨?_, ?_⟩
      · show (0 + ((-1) * ρ 2 + (1 * ρ 3 + 0))) ≤ 0
        try simp only [Int.zero_add, Int.add_zero, Int.one_mul]
        unfold w201 at h0 h1
        omega
      · exact fun _ h => (by cases h)
noncomputable def ru_mskr : RU := (2, [(230, [((.ofNat 0), [(0, (.ofNat 1))]), ((.ofNat 0), [(1, (.ofNat 1))])])], [], [], [((.ofNat 0), [(0, (.negSucc 0))]), ((.negSucc 14), [(0, (.ofNat 1))])], [], 0, false)
theorem ru_mskr_ok : RuOk ru_mskr := by
  refine ⟨by decide, fun ρ hp hf => ?_⟩
  have h0 : w230 (ρ 0) (ρ 1) := by
    have q : w230 (0 + (1 * ρ 0 + 0)) (0 + (1 * ρ 1 + 0)) := hp _ List.mem_cons_self
    simpa only [Int.zero_add, Int.add_zero, Int.one_mul] using q
  clear hp hf
  refine ⟨rfl, ρ, agr2.rf, ?_, ?_⟩
  · exact fun _ h => (by cases h)
  · refine List.forall_mem_cons.mpr ⟨?_, ?_⟩
    · show (0 + ((-1) * ρ 0 + 0)) ≤ 0
      try simp only [Int.zero_add, Int.add_zero, Int.one_mul]
      obtain ⟨a, b, c, d, e, f⟩ := h0
      omega
    · refine List.forall_mem_cons.mpr ⟨?_, ?_⟩
      · show ((-15) + (1 * ρ 0 + 0)) ≤ 0
        try simp only [Int.zero_add, Int.add_zero, Int.one_mul]
        obtain ⟨a, b, c, d, e, f⟩ := h0
        omega
      · exact fun _ h => (by cases h)
noncomputable def ru_pkz0 : RU := (15, [(333, [((.ofNat 0), [(0, (.ofNat 1))]), ((.ofNat 0), [(1, (.ofNat 1))])]), (213, [((.ofNat 0), [(2, (.ofNat 1))]), ((.ofNat 0), [(3, (.ofNat 1))]), ((.ofNat 0), [(4, (.ofNat 1))]), ((.ofNat 0), [(5, (.ofNat 1))]), ((.ofNat 0), [(6, (.ofNat 1))]), ((.ofNat 0), [(7, (.ofNat 1))]), ((.ofNat 0), [(8, (.ofNat 1))]), ((.ofNat 0), [(9, (.ofNat 1))]), ((.ofNat 0), [(10, (.ofNat 1))]), ((.ofNat 0), [(11, (.ofNat 1))]), ((.ofNat 0), [(12, (.ofNat 1))]), ((.ofNat 0), [(13, (.ofNat 1))]), ((.ofNat 0), [(14, (.ofNat 1))])])], [((.ofNat 0), [(0, (.ofNat 1))]), ((.ofNat 0), [(0, (.negSucc 0))])], [(213, [((.ofNat 0), [(15, (.ofNat 1))]), ((.ofNat 0), [(1, (.ofNat 1))]), ((.ofNat 0), [(4, (.ofNat 1))]), ((.ofNat 0), [(5, (.ofNat 1))]), ((.ofNat 0), [(6, (.ofNat 1))]), ((.ofNat 0), [(7, (.ofNat 1))]), ((.ofNat 0), [(8, (.ofNat 1))]), ((.ofNat 0), [(9, (.ofNat 1))]), ((.ofNat 0), [(10, (.ofNat 1))]), ((.ofNat 0), [(11, (.ofNat 1))]), ((.ofNat 0), [(12, (.ofNat 1))]), ((.ofNat 0), [(13, (.ofNat 1))]), ((.ofNat 0), [(14, (.ofNat 1))])]), (202, [((.ofNat 0), [(2, (.ofNat 1))]), ((.ofNat 0), []), ((.ofNat 0), [(1, (.ofNat 1))]), ((.ofNat 0), [(15, (.ofNat 1))])])], [], [1], 1, false)
theorem ru_pkz0_ok : RuOk ru_pkz0 := by
  refine ⟨by decide, fun ρ hp hf => ?_⟩
  have h1 : w213 (ρ 2) (ρ 3) (ρ 4) (ρ 5) (ρ 6) (ρ 7) (ρ 8) (ρ 9) (ρ 10) (ρ 11) (ρ 12) (ρ 13) (ρ 14) := by
    have q : w213 (0 + (1 * ρ 2 + 0)) (0 + (1 * ρ 3 + 0)) (0 + (1 * ρ 4 + 0)) (0 + (1 * ρ 5 + 0)) (0 + (1 * ρ 6 + 0)) (0 + (1 * ρ 7 + 0)) (0 + (1 * ρ 8 + 0)) (0 + (1 * ρ 9 + 0)) (0 + (1 * ρ 10 + 0)) (0 + (1 * ρ 11 + 0)) (0 + (1 * ρ 12 + 0)) (0 + (1 * ρ 13 + 0)) (0 + (1 * ρ 14 + 0)) := hp _ (List.mem_cons_of_mem _ List.mem_cons_self)
    simpa only [Int.zero_add, Int.add_zero, Int.one_mul] using q
  have f0 : (0 + (1 * ρ 0 + 0)) ≤ 0 := hf _ List.mem_cons_self
  have f1 : (0 + ((-1) * ρ 0 + 0)) ≤ 0 := hf _ (List.mem_cons_of_mem _ List.mem_cons_self)
  clear hp hf
  refine ⟨rfl, (ex1 ρ 15 (uX (0 + 1 * (ρ 2)) (0) (0 + 1 * (ρ 1)))), (ex1_agr (by decide) agr2.rf), ?_, ?_⟩
  · refine List.forall_mem_cons.mpr ⟨?_, ?_⟩
    · show w213 (0 + (1 * (uX (0 + 1 * (ρ 2)) (0) (0 + 1 * (ρ 1))) + 0)) (0 + (1 * ρ 1 + 0)) (0 + (1 * ρ 4 + 0)) (0 + (1 * ρ 5 + 0)) (0 + (1 * ρ 6 + 0)) (0 + (1 * ρ 7 + 0)) (0 + (1 * ρ 8 + 0)) (0 + (1 * ρ 9 + 0)) (0 + (1 * ρ 10 + 0)) (0 + (1 * ρ 11 + 0)) (0 + (1 * ρ 12 + 0)) (0 + (1 * ρ 13 + 0)) (0 + (1 * ρ 14 + 0))
      try simp only [Int.zero_add, Int.add_zero, Int.one_mul]
      unfold w213 at h1 ⊢
      refine ⟨uX_nn _ _ _ h1.1, ?_⟩
      simp [gX_uX, gX_ne, h1]
    · refine List.forall_mem_cons.mpr ⟨?_, ?_⟩
      · show w202 (0 + (1 * ρ 2 + 0)) (0 + 0) (0 + (1 * ρ 1 + 0)) (0 + (1 * (uX (0 + 1 * (ρ 2)) (0) (0 + 1 * (ρ 1))) + 0))
        try simp only [Int.zero_add, Int.add_zero, Int.one_mul]
        unfold w213 at h1
        unfold w202
        refine ⟨?_, ?_, h1.1⟩
        · simp
        · simpa using uX_nn _ _ _ h1.1
      · exact fun _ h => (by cases h)
  · exact fun _ h => (by cases h)
noncomputable def ru_pkz1 : RU := (15, [(333, [((.ofNat 0), [(0, (.ofNat 1))]), ((.ofNat 0), [(1, (.ofNat 1))])]), (213, [((.ofNat 0), [(2, (.ofNat 1))]), ((.ofNat 0), [(3, (.ofNat 1))]), ((.ofNat 0), [(4, (.ofNat 1))]), ((.ofNat 0), [(5, (.ofNat 1))]), ((.ofNat 0), [(6, (.ofNat 1))]), ((.ofNat 0), [(7, (.ofNat 1))]), ((.ofNat 0), [(8, (.ofNat 1))]), ((.ofNat 0), [(9, (.ofNat 1))]), ((.ofNat 0), [(10, (.ofNat 1))]), ((.ofNat 0), [(11, (.ofNat 1))]), ((.ofNat 0), [(12, (.ofNat 1))]), ((.ofNat 0), [(13, (.ofNat 1))]), ((.ofNat 0), [(14, (.ofNat 1))])])], [((.negSucc 0), [(0, (.ofNat 1))]), ((.ofNat 1), [(0, (.negSucc 0))])], [(213, [((.ofNat 0), [(15, (.ofNat 1))]), ((.ofNat 0), [(3, (.ofNat 1))]), ((.ofNat 0), [(4, (.ofNat 1))]), ((.ofNat 0), [(5, (.ofNat 1))]), ((.ofNat 0), [(1, (.ofNat 1))]), ((.ofNat 0), [(7, (.ofNat 1))]), ((.ofNat 0), [(8, (.ofNat 1))]), ((.ofNat 0), [(9, (.ofNat 1))]), ((.ofNat 0), [(10, (.ofNat 1))]), ((.ofNat 0), [(11, (.ofNat 1))]), ((.ofNat 0), [(12, (.ofNat 1))]), ((.ofNat 0), [(13, (.ofNat 1))]), ((.ofNat 0), [(14, (.ofNat 1))])]), (202, [((.ofNat 0), [(2, (.ofNat 1))]), ((.ofNat 3), []), ((.ofNat 0), [(1, (.ofNat 1))]), ((.ofNat 0), [(15, (.ofNat 1))])])], [], [1], 1, false)
theorem ru_pkz1_ok : RuOk ru_pkz1 := by
  refine ⟨by decide, fun ρ hp hf => ?_⟩
  have h1 : w213 (ρ 2) (ρ 3) (ρ 4) (ρ 5) (ρ 6) (ρ 7) (ρ 8) (ρ 9) (ρ 10) (ρ 11) (ρ 12) (ρ 13) (ρ 14) := by
    have q : w213 (0 + (1 * ρ 2 + 0)) (0 + (1 * ρ 3 + 0)) (0 + (1 * ρ 4 + 0)) (0 + (1 * ρ 5 + 0)) (0 + (1 * ρ 6 + 0)) (0 + (1 * ρ 7 + 0)) (0 + (1 * ρ 8 + 0)) (0 + (1 * ρ 9 + 0)) (0 + (1 * ρ 10 + 0)) (0 + (1 * ρ 11 + 0)) (0 + (1 * ρ 12 + 0)) (0 + (1 * ρ 13 + 0)) (0 + (1 * ρ 14 + 0)) := hp _ (List.mem_cons_of_mem _ List.mem_cons_self)
    simpa only [Int.zero_add, Int.add_zero, Int.one_mul] using q
  have f0 : ((-1) + (1 * ρ 0 + 0)) ≤ 0 := hf _ List.mem_cons_self
  have f1 : (1 + ((-1) * ρ 0 + 0)) ≤ 0 := hf _ (List.mem_cons_of_mem _ List.mem_cons_self)
  clear hp hf
  refine ⟨rfl, (ex1 ρ 15 (uX (0 + 1 * (ρ 2)) (3) (0 + 1 * (ρ 1)))), (ex1_agr (by decide) agr2.rf), ?_, ?_⟩
  · refine List.forall_mem_cons.mpr ⟨?_, ?_⟩
    · show w213 (0 + (1 * (uX (0 + 1 * (ρ 2)) (3) (0 + 1 * (ρ 1))) + 0)) (0 + (1 * ρ 3 + 0)) (0 + (1 * ρ 4 + 0)) (0 + (1 * ρ 5 + 0)) (0 + (1 * ρ 1 + 0)) (0 + (1 * ρ 7 + 0)) (0 + (1 * ρ 8 + 0)) (0 + (1 * ρ 9 + 0)) (0 + (1 * ρ 10 + 0)) (0 + (1 * ρ 11 + 0)) (0 + (1 * ρ 12 + 0)) (0 + (1 * ρ 13 + 0)) (0 + (1 * ρ 14 + 0))
      try simp only [Int.zero_add, Int.add_zero, Int.one_mul]
      unfold w213 at h1 ⊢
      refine ⟨uX_nn _ _ _ h1.1, ?_⟩
      simp [gX_uX, gX_ne, h1]
    · refine List.forall_mem_cons.mpr ⟨?_, ?_⟩
      · show w202 (0 + (1 * ρ 2 + 0)) (3 + 0) (0 + (1 * ρ 1 + 0)) (0 + (1 * (uX (0 + 1 * (ρ 2)) (3) (0 + 1 * (ρ 1))) + 0))
        try simp only [Int.zero_add, Int.add_zero, Int.one_mul]
        unfold w213 at h1
        unfold w202
        refine ⟨?_, ?_, h1.1⟩
        · simp
        · simpa using uX_nn _ _ _ h1.1
      · exact fun _ h => (by cases h)
  · exact fun _ h => (by cases h)
noncomputable def ru_pkz2 : RU := (15, [(333, [((.ofNat 0), [(0, (.ofNat 1))]), ((.ofNat 0), [(1, (.ofNat 1))])]), (213, [((.ofNat 0), [(2, (.ofNat 1))]), ((.ofNat 0), [(3, (.ofNat 1))]), ((.ofNat 0), [(4, (.ofNat 1))]), ((.ofNat 0), [(5, (.ofNat 1))]), ((.ofNat 0), [(6, (.ofNat 1))]), ((.ofNat 0), [(7, (.ofNat 1))]), ((.ofNat 0), [(8, (.ofNat 1))]), ((.ofNat 0), [(9, (.ofNat 1))]), ((.ofNat 0), [(10, (.ofNat 1))]), ((.ofNat 0), [(11, (.ofNat 1))]), ((.ofNat 0), [(12, (.ofNat 1))]), ((.ofNat 0), [(13, (.ofNat 1))]), ((.ofNat 0), [(14, (.ofNat 1))])])], [((.negSucc 1), [(0, (.ofNat 1))]), ((.ofNat 2), [(0, (.negSucc 0))])], [(213, [((.ofNat 0), [(15, (.ofNat 1))]), ((.ofNat 0), [(3, (.ofNat 1))]), ((.ofNat 0), [(4, (.ofNat 1))]), ((.ofNat 0), [(5, (.ofNat 1))]), ((.ofNat 0), [(6, (.ofNat 1))]), ((.ofNat 0), [(7, (.ofNat 1))]), ((.ofNat 0), [(8, (.ofNat 1))]), ((.ofNat 0), [(1, (.ofNat 1))]), ((.ofNat 0), [(10, (.ofNat 1))]), ((.ofNat 0), [(11, (.ofNat 1))]), ((.ofNat 0), [(12, (.ofNat 1))]), ((.ofNat 0), [(13, (.ofNat 1))]), ((.ofNat 0), [(14, (.ofNat 1))])]), (202, [((.ofNat 0), [(2, (.ofNat 1))]), ((.ofNat 6), []), ((.ofNat 0), [(1, (.ofNat 1))]), ((.ofNat 0), [(15, (.ofNat 1))])])], [], [1], 1, false)
theorem ru_pkz2_ok : RuOk ru_pkz2 := by
  refine ⟨by decide, fun ρ hp hf => ?_⟩
  have h1 : w213 (ρ 2) (ρ 3) (ρ 4) (ρ 5) (ρ 6) (ρ 7) (ρ 8) (ρ 9) (ρ 10) (ρ 11) (ρ 12) (ρ 13) (ρ 14) := by
    have q : w213 (0 + (1 * ρ 2 + 0)) (0 + (1 * ρ 3 + 0)) (0 + (1 * ρ 4 + 0)) (0 + (1 * ρ 5 + 0)) (0 + (1 * ρ 6 + 0)) (0 + (1 * ρ 7 + 0)) (0 + (1 * ρ 8 + 0)) (0 + (1 * ρ 9 + 0)) (0 + (1 * ρ 10 + 0)) (0 + (1 * ρ 11 + 0)) (0 + (1 * ρ 12 + 0)) (0 + (1 * ρ 13 + 0)) (0 + (1 * ρ 14 + 0)) := hp _ (List.mem_cons_of_mem _ List.mem_cons_self)
    simpa only [Int.zero_add, Int.add_zero, Int.one_mul] using q
  have f0 : ((-2) + (1 * ρ 0 + 0)) ≤ 0 := hf _ List.mem_cons_self
  have f1 : (2 + ((-1) * ρ 0 + 0)) ≤ 0 := hf _ (List.mem_cons_of_mem _ List.mem_cons_self)
  clear hp hf
  refine ⟨rfl, (ex1 ρ 15 (uX (0 + 1 * (ρ 2)) (6) (0 + 1 * (ρ 1)))), (ex1_agr (by decide) agr2.rf), ?_, ?_⟩
  · refine List.forall_mem_cons.mpr ⟨?_, ?_⟩
    · show w213 (0 + (1 * (uX (0 + 1 * (ρ 2)) (6) (0 + 1 * (ρ 1))) + 0)) (0 + (1 * ρ 3 + 0)) (0 + (1 * ρ 4 + 0)) (0 + (1 * ρ 5 + 0)) (0 + (1 * ρ 6 + 0)) (0 + (1 * ρ 7 + 0)) (0 + (1 * ρ 8 + 0)) (0 + (1 * ρ 1 + 0)) (0 + (1 * ρ 10 + 0)) (0 + (1 * ρ 11 + 0)) (0 + (1 * ρ 12 + 0)) (0 + (1 * ρ 13 + 0)) (0 + (1 * ρ 14 + 0))
      try simp only [Int.zero_add, Int.add_zero, Int.one_mul]
      unfold w213 at h1 ⊢
      refine ⟨uX_nn _ _ _ h1.1, ?_⟩
      simp [gX_uX, gX_ne, h1]
    · refine List.forall_mem_cons.mpr ⟨?_, ?_⟩
      · show w202 (0 + (1 * ρ 2 + 0)) (6 + 0) (0 + (1 * ρ 1 + 0)) (0 + (1 * (uX (0 + 1 * (ρ 2)) (6) (0 + 1 * (ρ 1))) + 0))
        try simp only [Int.zero_add, Int.add_zero, Int.one_mul]
        unfold w213 at h1
        unfold w202
        refine ⟨?_, ?_, h1.1⟩
        · simp
        · simpa using uX_nn _ _ _ h1.1
      · exact fun _ h => (by cases h)
  · exact fun _ h => (by cases h)
noncomputable def ru_pkz3 : RU := (15, [(333, [((.ofNat 0), [(0, (.ofNat 1))]), ((.ofNat 0), [(1, (.ofNat 1))])]), (213, [((.ofNat 0), [(2, (.ofNat 1))]), ((.ofNat 0), [(3, (.ofNat 1))]), ((.ofNat 0), [(4, (.ofNat 1))]), ((.ofNat 0), [(5, (.ofNat 1))]), ((.ofNat 0), [(6, (.ofNat 1))]), ((.ofNat 0), [(7, (.ofNat 1))]), ((.ofNat 0), [(8, (.ofNat 1))]), ((.ofNat 0), [(9, (.ofNat 1))]), ((.ofNat 0), [(10, (.ofNat 1))]), ((.ofNat 0), [(11, (.ofNat 1))]), ((.ofNat 0), [(12, (.ofNat 1))]), ((.ofNat 0), [(13, (.ofNat 1))]), ((.ofNat 0), [(14, (.ofNat 1))])])], [((.negSucc 2), [(0, (.ofNat 1))]), ((.ofNat 3), [(0, (.negSucc 0))])], [(213, [((.ofNat 0), [(15, (.ofNat 1))]), ((.ofNat 0), [(3, (.ofNat 1))]), ((.ofNat 0), [(4, (.ofNat 1))]), ((.ofNat 0), [(5, (.ofNat 1))]), ((.ofNat 0), [(6, (.ofNat 1))]), ((.ofNat 0), [(7, (.ofNat 1))]), ((.ofNat 0), [(8, (.ofNat 1))]), ((.ofNat 0), [(9, (.ofNat 1))]), ((.ofNat 0), [(10, (.ofNat 1))]), ((.ofNat 0), [(11, (.ofNat 1))]), ((.ofNat 0), [(1, (.ofNat 1))]), ((.ofNat 0), [(13, (.ofNat 1))]), ((.ofNat 0), [(14, (.ofNat 1))])]), (202, [((.ofNat 0), [(2, (.ofNat 1))]), ((.ofNat 9), []), ((.ofNat 0), [(1, (.ofNat 1))]), ((.ofNat 0), [(15, (.ofNat 1))])])], [], [1], 1, false)
theorem ru_pkz3_ok : RuOk ru_pkz3 := by
  refine ⟨by decide, fun ρ hp hf => ?_⟩
  have h1 : w213 (ρ 2) (ρ 3) (ρ 4) (ρ 5) (ρ 6) (ρ 7) (ρ 8) (ρ 9) (ρ 10) (ρ 11) (ρ 12) (ρ 13) (ρ 14) := by
    have q : w213 (0 + (1 * ρ 2 + 0)) (0 + (1 * ρ 3 + 0)) (0 + (1 * ρ 4 + 0)) (0 + (1 * ρ 5 + 0)) (0 + (1 * ρ 6 + 0)) (0 + (1 * ρ 7 + 0)) (0 + (1 * ρ 8 + 0)) (0 + (1 * ρ 9 + 0)) (0 + (1 * ρ 10 + 0)) (0 + (1 * ρ 11 + 0)) (0 + (1 * ρ 12 + 0)) (0 + (1 * ρ 13 + 0)) (0 + (1 * ρ 14 + 0)) := hp _ (List.mem_cons_of_mem _ List.mem_cons_self)
    simpa only [Int.zero_add, Int.add_zero, Int.one_mul] using q
  have f0 : ((-3) + (1 * ρ 0 + 0)) ≤ 0 := hf _ List.mem_cons_self
  have f1 : (3 + ((-1) * ρ 0 + 0)) ≤ 0 := hf _ (List.mem_cons_of_mem _ List.mem_cons_self)
  clear hp hf
  refine ⟨rfl, (ex1 ρ 15 (uX (0 + 1 * (ρ 2)) (9) (0 + 1 * (ρ 1)))), (ex1_agr (by decide) agr2.rf), ?_, ?_⟩
  · refine List.forall_mem_cons.mpr ⟨?_, ?_⟩
    · show w213 (0 + (1 * (uX (0 + 1 * (ρ 2)) (9) (0 + 1 * (ρ 1))) + 0)) (0 + (1 * ρ 3 + 0)) (0 + (1 * ρ 4 + 0)) (0 + (1 * ρ 5 + 0)) (0 + (1 * ρ 6 + 0)) (0 + (1 * ρ 7 + 0)) (0 + (1 * ρ 8 + 0)) (0 + (1 * ρ 9 + 0)) (0 + (1 * ρ 10 + 0)) (0 + (1 * ρ 11 + 0)) (0 + (1 * ρ 1 + 0)) (0 + (1 * ρ 13 + 0)) (0 + (1 * ρ 14 + 0))
      try simp only [Int.zero_add, Int.add_zero, Int.one_mul]
      unfold w213 at h1 ⊢
      refine ⟨uX_nn _ _ _ h1.1, ?_⟩
      simp [gX_uX, gX_ne, h1]
    · refine List.forall_mem_cons.mpr ⟨?_, ?_⟩
      · show w202 (0 + (1 * ρ 2 + 0)) (9 + 0) (0 + (1 * ρ 1 + 0)) (0 + (1 * (uX (0 + 1 * (ρ 2)) (9) (0 + 1 * (ρ 1))) + 0))
        try simp only [Int.zero_add, Int.add_zero, Int.one_mul]
        unfold w213 at h1
        unfold w202
        refine ⟨?_, ?_, h1.1⟩
        · simp
        · simpa using uX_nn _ _ _ h1.1
      · exact fun _ h => (by cases h)
  · exact fun _ h => (by cases h)
noncomputable def ru_pky0 : RU := (15, [(333, [((.ofNat 0), [(0, (.ofNat 1))]), ((.ofNat 0), [(1, (.ofNat 1))])]), (213, [((.ofNat 0), [(2, (.ofNat 1))]), ((.ofNat 0), [(3, (.ofNat 1))]), ((.ofNat 0), [(4, (.ofNat 1))]), ((.ofNat 0), [(5, (.ofNat 1))]), ((.ofNat 0), [(6, (.ofNat 1))]), ((.ofNat 0), [(7, (.ofNat 1))]), ((.ofNat 0), [(8, (.ofNat 1))]), ((.ofNat 0), [(9, (.ofNat 1))]), ((.ofNat 0), [(10, (.ofNat 1))]), ((.ofNat 0), [(11, (.ofNat 1))]), ((.ofNat 0), [(12, (.ofNat 1))]), ((.ofNat 0), [(13, (.ofNat 1))]), ((.ofNat 0), [(14, (.ofNat 1))])])], [((.ofNat 0), [(0, (.ofNat 1))]), ((.ofNat 0), [(0, (.negSucc 0))])], [(213, [((.ofNat 0), [(15, (.ofNat 1))]), ((.ofNat 0), [(3, (.ofNat 1))]), ((.ofNat 0), [(1, (.ofNat 1))]), ((.ofNat 0), [(5, (.ofNat 1))]), ((.ofNat 0), [(6, (.ofNat 1))]), ((.ofNat 0), [(7, (.ofNat 1))]), ((.ofNat 0), [(8, (.ofNat 1))]), ((.ofNat 0), [(9, (.ofNat 1))]), ((.ofNat 0), [(10, (.ofNat 1))]), ((.ofNat 0), [(11, (.ofNat 1))]), ((.ofNat 0), [(12, (.ofNat 1))]), ((.ofNat 0), [(13, (.ofNat 1))]), ((.ofNat 0), [(14, (.ofNat 1))])]), (202, [((.ofNat 0), [(2, (.ofNat 1))]), ((.ofNat 1), []), ((.ofNat 0), [(1, (.ofNat 1))]), ((.ofNat 0), [(15, (.ofNat 1))])])], [], [1], 1, false)
theorem ru_pky0_ok : RuOk ru_pky0 := by
  refine ⟨by decide, fun ρ hp hf => ?_⟩
  have h1 : w213 (ρ 2) (ρ 3) (ρ 4) (ρ 5) (ρ 6) (ρ 7) (ρ 8) (ρ 9) (ρ 10) (ρ 11) (ρ 12) (ρ 13) (ρ 14) := by
    have q : w213 (0 + (1 * ρ 2 + 0)) (0 + (1 * ρ 3 + 0)) (0 + (1 * ρ 4 + 0)) (0 + (1 * ρ 5 + 0)) (0 + (1 * ρ 6 + 0)) (0 + (1 * ρ 7 + 0)) (0 + (1 * ρ 8 + 0)) (0 + (1 * ρ 9 + 0)) (0 + (1 * ρ 10 + 0)) (0 + (1 * ρ 11 + 0)) (0 + (1 * ρ 12 + 0)) (0 + (1 * ρ 13 + 0)) (0 + (1 * ρ 14 + 0)) := hp _ (List.mem_cons_of_mem _ List.mem_cons_self)
    simpa only [Int.zero_add, Int.add_zero, Int.one_mul] using q
  have f0 : (0 + (1 * ρ 0 + 0)) ≤ 0 := hf _ List.mem_cons_self
  have f1 : (0 + ((-1) * ρ 0 + 0)) ≤ 0 := hf _ (List.mem_cons_of_mem _ List.mem_cons_self)
  clear hp hf
  refine ⟨rfl, (ex1 ρ 15 (uX (0 + 1 * (ρ 2)) (1) (0 + 1 * (ρ 1)))), (ex1_agr (by decide) agr2.rf), ?_, ?_⟩
  · refine List.forall_mem_cons.mpr ⟨?_, ?_⟩
    · show w213 (0 + (1 * (uX (0 + 1 * (ρ 2)) (1) (0 + 1 * (ρ 1))) + 0)) (0 + (1 * ρ 3 + 0)) (0 + (1 * ρ 1 + 0)) (0 + (1 * ρ 5 + 0)) (0 + (1 * ρ 6 + 0)) (0 + (1 * ρ 7 + 0)) (0 + (1 * ρ 8 + 0)) (0 + (1 * ρ 9 + 0)) (0 + (1 * ρ 10 + 0)) (0 + (1 * ρ 11 + 0)) (0 + (1 * ρ 12 + 0)) (0 + (1 * ρ 13 + 0)) (0 + (1 * ρ 14 + 0))
      try simp only [Int.zero_add, Int.add_zero, Int.one_mul]
      unfold w213 at h1 ⊢
      refine ⟨uX_nn _ _ _ h1.1, ?_⟩
      simp [gX_uX, gX_ne, h1]
    · refine List.forall_mem_cons.mpr ⟨?_, ?_⟩
      · show w202 (0 + (1 * ρ 2 + 0)) (1 + 0) (0 + (1 * ρ 1 + 0)) (0 + (1 * (uX (0 + 1 * (ρ 2)) (1) (0 + 1 * (ρ 1))) + 0))
        try simp only [Int.zero_add, Int.add_zero, Int.one_mul]
        unfold w213 at h1
        unfold w202
        refine ⟨?_, ?_, h1.1⟩
        · simp
        · simpa using uX_nn _ _ _ h1.1
      · exact fun _ h => (by cases h)
  · exact fun _ h => (by cases h)
noncomputable def ru_pkx0 : RU := (15, [(333, [((.ofNat 0), [(0, (.ofNat 1))]), ((.ofNat 0), [(1, (.ofNat 1))])]), (213, [((.ofNat 0), [(2, (.ofNat 1))]), ((.ofNat 0), [(3, (.ofNat 1))]), ((.ofNat 0), [(4, (.ofNat 1))]), ((.ofNat 0), [(5, (.ofNat 1))]), ((.ofNat 0), [(6, (.ofNat 1))]), ((.ofNat 0), [(7, (.ofNat 1))]), ((.ofNat 0), [(8, (.ofNat 1))]), ((.ofNat 0), [(9, (.ofNat 1))]), ((.ofNat 0), [(10, (.ofNat 1))]), ((.ofNat 0), [(11, (.ofNat 1))]), ((.ofNat 0), [(12, (.ofNat 1))]), ((.ofNat 0), [(13, (.ofNat 1))]), ((.ofNat 0), [(14, (.ofNat 1))])])], [((.ofNat 0), [(0, (.ofNat 1))]), ((.ofNat 0), [(0, (.negSucc 0))])], [(213, [((.ofNat 0), [(15, (.ofNat 1))]), ((.ofNat 0), [(3, (.ofNat 1))]), ((.ofNat 0), [(4, (.ofNat 1))]), ((.ofNat 0), [(1, (.ofNat 1))]), ((.ofNat 0), [(6, (.ofNat 1))]), ((.ofNat 0), [(7, (.ofNat 1))]), ((.ofNat 0), [(8, (.ofNat 1))]), ((.ofNat 0), [(9, (.ofNat 1))]), ((.ofNat 0), [(10, (.ofNat 1))]), ((.ofNat 0), [(11, (.ofNat 1))]), ((.ofNat 0), [(12, (.ofNat 1))]), ((.ofNat 0), [(13, (.ofNat 1))]), ((.ofNat 0), [(14, (.ofNat 1))])]), (202, [((.ofNat 0), [(2, (.ofNat 1))]), ((.ofNat 2), []), ((.ofNat 0), [(1, (.ofNat 1))]), ((.ofNat 0), [(15, (.ofNat 1))])])], [], [1], 1, false)
theorem ru_pkx0_ok : RuOk ru_pkx0 := by
  refine ⟨by decide, fun ρ hp hf => ?_⟩
  have h1 : w213 (ρ 2) (ρ 3) (ρ 4) (ρ 5) (ρ 6) (ρ 7) (ρ 8) (ρ 9) (ρ 10) (ρ 11) (ρ 12) (ρ 13) (ρ 14) := by
    have q : w213 (0 + (1 * ρ 2 + 0)) (0 + (1 * ρ 3 + 0)) (0 + (1 * ρ 4 + 0)) (0 + (1 * ρ 5 + 0)) (0 + (1 * ρ 6 + 0)) (0 + (1 * ρ 7 + 0)) (0 + (1 * ρ 8 + 0)) (0 + (1 * ρ 9 + 0)) (0 + (1 * ρ 10 + 0)) (0 + (1 * ρ 11 + 0)) (0 + (1 * ρ 12 + 0)) (0 + (1 * ρ 13 + 0)) (0 + (1 * ρ 14 + 0)) := hp _ (List.mem_cons_of_mem _ List.mem_cons_self)
    simpa only [Int.zero_add, Int.add_zero, Int.one_mul] using q
  have f0 : (0 + (1 * ρ 0 + 0)) ≤ 0 := hf _ List.mem_cons_self
  have f1 : (0 + ((-1) * ρ 0 + 0)) ≤ 0 := hf _ (List.mem_cons_of_mem _ List.mem_cons_self)
  clear hp hf
  refine ⟨rfl, (ex1 ρ 15 (uX (0 + 1 * (ρ 2)) (2) (0 + 1 * (ρ 1)))), (ex1_agr (by decide) agr2.rf), ?_, ?_⟩
  · refine List.forall_mem_cons.mpr ⟨?_, ?_⟩
    · show w213 (0 + (1 * (uX (0 + 1 * (ρ 2)) (2) (0 + 1 * (ρ 1))) + 0)) (0 + (1 * ρ 3 + 0)) (0 + (1 * ρ 4 + 0)) (0 + (1 * ρ 1 + 0)) (0 + (1 * ρ 6 + 0)) (0 + (1 * ρ 7 + 0)) (0 + (1 * ρ 8 + 0)) (0 + (1 * ρ 9 + 0)) (0 + (1 * ρ 10 + 0)) (0 + (1 * ρ 11 + 0)) (0 + (1 * ρ 12 + 0)) (0 + (1 * ρ 13 + 0)) (0 + (1 * ρ 14 + 0))
      try simp only [Int.zero_add, Int.add_zero, Int.one_mul]
      unfold w213 at h1 ⊢
      refine ⟨uX_nn _ _ _ h1.1, ?_⟩
      simp [gX_uX, gX_ne, h1]
    · refine List.forall_mem_cons.mpr ⟨?_, ?_⟩
      · show w202 (0 + (1 * ρ 2 + 0)) (2 + 0) (0 + (1 * ρ 1 + 0)) (0 + (1 * (uX (0 + 1 * (ρ 2)) (2) (0 + 1 * (ρ 1))) + 0))
        try simp only [Int.zero_add, Int.add_zero, Int.one_mul]
        unfold w213 at h1
        unfold w202
        refine ⟨?_, ?_, h1.1⟩
        · simp
        · simpa using uX_nn _ _ _ h1.1
      · exact fun _ h => (by cases h)
  · exact fun _ h => (by cases h)
noncomputable def ru_pky1 : RU := (15, [(333, [((.ofNat 0), [(0, (.ofNat 1))]), ((.ofNat 0), [(1, (.ofNat 1))])]), (213, [((.ofNat 0), [(2, (.ofNat 1))]), ((.ofNat 0), [(3, (.ofNat 1))]), ((.ofNat 0), [(4, (.ofNat 1))]), ((.ofNat 0), [(5, (.ofNat 1))]), ((.ofNat 0), [(6, (.ofNat 1))]), ((.ofNat 0), [(7, (.ofNat 1))]), ((.ofNat 0), [(8, (.ofNat 1))]), ((.ofNat 0), [(9, (.ofNat 1))]), ((.ofNat 0), [(10, (.ofNat 1))]), ((.ofNat 0), [(11, (.ofNat 1))]), ((.ofNat 0), [(12, (.ofNat 1))]), ((.ofNat 0), [(13, (.ofNat 1))]), ((.ofNat 0), [(14, (.ofNat 1))])])], [((.negSucc 0), [(0, (.ofNat 1))]), ((.ofNat 1), [(0, (.negSucc 0))])], [(213, [((.ofNat 0), [(15, (.ofNat 1))]), ((.ofNat 0), [(3, (.ofNat 1))]), ((.ofNat 0), [(4, (.ofNat 1))]), ((.ofNat 0), [(5, (.ofNat 1))]), ((.ofNat 0), [(6, (.ofNat 1))]), ((.ofNat 0), [(1, (.ofNat 1))]), ((.ofNat 0), [(8, (.ofNat 1))]), ((.ofNat 0), [(9, (.ofNat 1))]), ((.ofNat 0), [(10, (.ofNat 1))]), ((.ofNat 0), [(11, (.ofNat 1))]), ((.ofNat 0), [(12, (.ofNat 1))]), ((.ofNat 0), [(13, (.ofNat 1))]), ((.ofNat 0), [(14, (.ofNat 1))])]), (202, [((.ofNat 0), [(2, (.ofNat 1))]), ((.ofNat 4), []), ((.ofNat 0), [(1, (.ofNat 1))]), ((.ofNat 0), [(15, (.ofNat 1))])])], [], [1], 1, false)
theorem ru_pky1_ok : RuOk ru_pky1 := by
  refine ⟨by decide, fun ρ hp hf => ?_⟩
  have h1 : w213 (ρ 2) (ρ 3) (ρ 4) (ρ 5) (ρ 6) (ρ 7) (ρ 8) (ρ 9) (ρ 10) (ρ 11) (ρ 12) (ρ 13) (ρ 14) := by
    have q : w213 (0 + (1 * ρ 2 + 0)) (0 + (1 * ρ 3 + 0)) (0 + (1 * ρ 4 + 0)) (0 + (1 * ρ 5 + 0)) (0 + (1 * ρ 6 + 0)) (0 + (1 * ρ 7 + 0)) (0 + (1 * ρ 8 + 0)) (0 + (1 * ρ 9 + 0)) (0 + (1 * ρ 10 + 0)) (0 + (1 * ρ 11 + 0)) (0 + (1 * ρ 12 + 0)) (0 + (1 * ρ 13 + 0)) (0 + (1 * ρ 14 + 0)) := hp _ (List.mem_cons_of_mem _ List.mem_cons_self)
    simpa only [Int.zero_add, Int.add_zero, Int.one_mul] using q
  have f0 : ((-1) + (1 * ρ 0 + 0)) ≤ 0 := hf _ List.mem_cons_self
  have f1 : (1 + ((-1) * ρ 0 + 0)) ≤ 0 := hf _ (List.mem_cons_of_mem _ List.mem_cons_self)
  clear hp hf
  refine ⟨rfl, (ex1 ρ 15 (uX (0 + 1 * (ρ 2)) (4) (0 + 1 * (ρ 1)))), (ex1_agr (by decide) agr2.rf), ?_, ?_⟩
  · refine List.forall_mem_cons.mpr ⟨?_, ?_⟩
    · show w213 (0 + (1 * (uX (0 + 1 * (ρ 2)) (4) (0 + 1 * (ρ 1))) + 0)) (0 + (1 * ρ 3 + 0)) (0 + (1 * ρ 4 + 0)) (0 + (1 * ρ 5 + 0)) (0 + (1 * ρ 6 + 0)) (0 + (1 * ρ 1 + 0)) (0 + (1 * ρ 8 + 0)) (0 + (1 * ρ 9 + 0)) (0 + (1 * ρ 10 + 0)) (0 + (1 * ρ 11 + 0)) (0 + (1 * ρ 12 + 0)) (0 + (1 * ρ 13 + 0)) (0 + (1 * ρ 14 + 0))
      try simp only [Int.zero_add, Int.add_zero, Int.one_mul]
      unfold w213 at h1 ⊢
      refine ⟨uX_nn _ _ _ h1.1, ?_⟩
      simp [gX_uX, gX_ne, h1]
    · refine List.forall_mem_cons.mpr ⟨?_, ?_⟩
      · show w202 (0 + (1 * ρ 2 + 0)) (4 + 0) (0 + (1 * ρ 1 + 0)) (0 + (1 * (uX (0 + 1 * (ρ 2)) (4) (0 + 1 * (ρ 1))) + 0))
        try simp only [Int.zero_add, Int.add_zero, Int.one_mul]
        unfold w213 at h1
        unfold w202
        refine ⟨?_, ?_, h1.1⟩
        · simp
        · simpa using uX_nn _ _ _ h1.1
      · exact fun _ h => (by cases h)
  · exact fun _ h => (by cases h)
noncomputable def ru_pkx1 : RU := (15, [(333, [((.ofNat 0), [(0, (.ofNat 1))]), ((.ofNat 0), [(1, (.ofNat 1))])]), (213, [((.ofNat 0), [(2, (.ofNat 1))]), ((.ofNat 0), [(3, (.ofNat 1))]), ((.ofNat 0), [(4, (.ofNat 1))]), ((.ofNat 0), [(5, (.ofNat 1))]), ((.ofNat 0), [(6, (.ofNat 1))]), ((.ofNat 0), [(7, (.ofNat 1))]), ((.ofNat 0), [(8, (.ofNat 1))]), ((.ofNat 0), [(9, (.ofNat 1))]), ((.ofNat 0), [(10, (.ofNat 1))]), ((.ofNat 0), [(11, (.ofNat 1))]), ((.ofNat 0), [(12, (.ofNat 1))]), ((.ofNat 0), [(13, (.ofNat 1))]), ((.ofNat 0), [(14, (.ofNat 1))])])], [((.negSucc 0), [(0, (.ofNat 1))]), ((.ofNat 1), [(0, (.negSucc 0))])], [(213, [((.ofNat 0), [(15, (.ofNat 1))]), ((.ofNat 0), [(3, (.ofNat 1))]), ((.ofNat 0), [(4, (.ofNat 1))]), ((.ofNat 0), [(5, (.ofNat 1))]), ((.ofNat 0), [(6, (.ofNat 1))]), ((.ofNat 0), [(7, (.ofNat 1))]), ((.ofNat 0), [(1, (.ofNat 1))]), ((.ofNat 0), [(9, (.ofNat 1))]), ((.ofNat 0), [(10, (.ofNat 1))]), ((.ofNat 0), [(11, (.ofNat 1))]), ((.ofNat 0), [(12, (.ofNat 1))]), ((.ofNat 0), [(13, (.ofNat 1))]), ((.ofNat 0), [(14, (.ofNat 1))])]), (202, [((.ofNat 0), [(2, (.ofNat 1))]), ((.ofNat 5), []), ((.ofNat 0), [(1, (.ofNat 1))]), ((.ofNat 0), [(15, (.ofNat 1))])])], [], [1], 1, false)
theorem ru_pkx1_ok : RuOk ru_pkx1 := by
  refine ⟨by decide, fun ρ hp hf => ?_⟩
  have h1 : w213 (ρ 2) (ρ 3) (ρ 4) (ρ 5) (ρ 6) (ρ 7) (ρ 8) (ρ 9) (ρ 10) (ρ 11) (ρ 12) (ρ 13) (ρ 14) := by
    have q : w213 (0 + (1 * ρ 2 + 0)) (0 + (1 * ρ 3 + 0)) (0 + (1 * ρ 4 + 0)) (0 + (1 * ρ 5 + 0)) (0 + (1 * ρ 6 + 0)) (0 + (1 * ρ 7 + 0)) (0 + (1 * ρ 8 + 0)) (0 + (1 * ρ 9 + 0)) (0 + (1 * ρ 10 + 0)) (0 + (1 * ρ 11 + 0)) (0 + (1 * ρ 12 + 0)) (0 + (1 * ρ 13 + 0)) (0 + (1 * ρ 14 + 0)) := hp _ (List.mem_cons_of_mem _ List.mem_cons_self)
    simpa only [Int.zero_add, Int.add_zero, Int.one_mul] using q
  have f0 : ((-1) + (1 * ρ 0 + 0)) ≤ 0 := hf _ List.mem_cons_self
  have f1 : (1 + ((-1) * ρ 0 + 0)) ≤ 0 := hf _ (List.mem_cons_of_mem _ List.mem_cons_self)
  clear hp hf
  refine ⟨rfl, (ex1 ρ 15 (uX (0 + 1 * (ρ 2)) (5) (0 + 1 * (ρ 1)))), (ex1_agr (by decide) agr2.rf), ?_, ?_⟩
  · refine List.forall_mem_cons.mpr ⟨?_, ?_⟩
    · show w213 (0 + (1 * (uX (0 + 1 * (ρ 2)) (5) (0 + 1 * (ρ 1))) + 0)) (0 + (1 * ρ 3 + 0)) (0 + (1 * ρ 4 + 0)) (0 + (1 * ρ 5 + 0)) (0 + (1 * ρ 6 + 0)) (0 + (1 * ρ 7 + 0)) (0 + (1 * ρ 1 + 0)) (0 + (1 * ρ 9 + 0)) (0 + (1 * ρ 10 + 0)) (0 + (1 * ρ 11 + 0)) (0 + (1 * ρ 12 + 0)) (0 + (1 * ρ 13 + 0)) (0 + (1 * ρ 14 + 0))
      try simp only [Int.zero_add, Int.add_zero, Int.one_mul]
      unfold w213 at h1 ⊢
      refine ⟨uX_nn _ _ _ h1.1, ?_⟩
      simp [gX_uX, gX_ne, h1]
    · refine List.forall_mem_cons.mpr ⟨?_, ?_⟩
      · show w202 (0 + (1 * ρ 2 + 0)) (5 + 0) (0 + (1 * ρ 1 + 0)) (0 + (1 * (uX (0 + 1 * (ρ 2)) (5) (0 + 1 * (ρ 1))) + 0))
        try simp only [Int.zero_add, Int.add_zero, Int.one_mul]
        unfold w213 at h1
        unfold w202
        refine ⟨?_, ?_, h1.1⟩
        · simp
        · simpa using uX_nn _ _ _ h1.1
      · exact fun _ h => (by cases h)
  · exact fun _ h => (by cases h)
noncomputable def ru_pky2 : RU := (15, [(333, [((.ofNat 0), [(0, (.ofNat 1))]), ((.ofNat 0), [(1, (.ofNat 1))])]), (213, [((.ofNat 0), [(2, (.ofNat 1))]), ((.ofNat 0), [(3, (.ofNat 1))]), ((.ofNat 0), [(4, (.ofNat 1))]), ((.ofNat 0), [(5, (.ofNat 1))]), ((.ofNat 0), [(6, (.ofNat 1))]), ((.ofNat 0), [(7, (.ofNat 1))]), ((.ofNat 0), [(8, (.ofNat 1))]), ((.ofNat 0), [(9, (.ofNat 1))]), ((.ofNat 0), [(10, (.ofNat 1))]), ((.ofNat 0), [(11, (.ofNat 1))]), ((.ofNat 0), [(12, (.ofNat 1))]), ((.ofNat 0), [(13, (.ofNat 1))]), ((.ofNat 0), [(14, (.ofNat 1))])])], [((.negSucc 1), [(0, (.ofNat 1))]), ((.ofNat 2), [(0, (.negSucc 0))])], [(213, [((.ofNat 0), [(15, (.ofNat 1))]), ((.ofNat 0), [(3, (.ofNat 1))]), ((.ofNat 0), [(4, (.ofNat 1))]), ((.ofNat 0), [(5, (.ofNat 1))]), ((.ofNat 0), [(6, (.ofNat 1))]), ((.ofNat 0), [(7, (.ofNat 1))]), ((.ofNat 0), [(8, (.ofNat 1))]), ((.ofNat 0), [(9, (.ofNat 1))]), ((.ofNat 0), [(1, (.ofNat 1))]), ((.ofNat 0), [(11, (.ofNat 1))]), ((.ofNat 0), [(12, (.ofNat 1))]), ((.ofNat 0), [(13, (.ofNat 1))]), ((.ofNat 0), [(14, (.ofNat 1))])]), (202, [((.ofNat 0), [(2, (.ofNat 1))]), ((.ofNat 7), []), ((.ofNat 0), [(1, (.ofNat 1))]), ((.ofNat 0), [(15, (.ofNat 1))])])], [], [1], 1, false)
theorem ru_pky2_ok : RuOk ru_pky2 := by
  refine ⟨by decide, fun ρ hp hf => ?_⟩
  have h1 : w213 (ρ 2) (ρ 3) (ρ 4) (ρ 5) (ρ 6) (ρ 7) (ρ 8) (ρ 9) (ρ 10) (ρ 11) (ρ 12) (ρ 13) (ρ 14) := by
    have q : w213 (0 + (1 * ρ 2 + 0)) (0 + (1 * ρ 3 + 0)) (0 + (1 * ρ 4 + 0)) (0 + (1 * ρ 5 + 0)) (0 + (1 * ρ 6 + 0)) (0 + (1 * ρ 7 + 0)) (0 + (1 * ρ 8 + 0)) (0 + (1 * ρ 9 + 0)) (0 + (1 * ρ 10 + 0)) (0 + (1 * ρ 11 + 0)) (0 + (1 * ρ 12 + 0)) (0 + (1 * ρ 13 + 0)) (0 + (1 * ρ 14 + 0)) := hp _ (List.mem_cons_of_mem _ List.mem_cons_self)
    simpa only [Int.zero_add, Int.add_zero, Int.one_mul] using q
  have f0 : ((-2) + (1 * ρ 0 + 0)) ≤ 0 := hf _ List.mem_cons_self
  have f1 : (2 + ((-1) * ρ 0 + 0)) ≤ 0 := hf _ (List.mem_cons_of_mem _ List.mem_cons_self)
  clear hp hf
  refine ⟨rfl, (ex1 ρ 15 (uX (0 + 1 * (ρ 2)) (7) (0 + 1 * (ρ 1)))), (ex1_agr (by decide) agr2.rf), ?_, ?_⟩
  · refine List.forall_mem_cons.mpr ⟨?_, ?_⟩
    · show w213 (0 + (1 * (uX (0 + 1 * (ρ 2)) (7) (0 + 1 * (ρ 1))) + 0)) (0 + (1 * ρ 3 + 0)) (0 + (1 * ρ 4 + 0)) (0 + (1 * ρ 5 + 0)) (0 + (1 * ρ 6 + 0)) (0 + (1 * ρ 7 + 0)) (0 + (1 * ρ 8 + 0)) (0 + (1 * ρ 9 + 0)) (0 + (1 * ρ 1 + 0)) (0 + (1 * ρ 11 + 0)) (0 + (1 * ρ 12 + 0)) (0 + (1 * ρ 13 + 0)) (0 + (1 * ρ 14 + 0))
      try simp only [Int.zero_add, Int.add_zero, Int.one_mul]
      unfold w213 at h1 ⊢
      refine ⟨uX_nn _ _ _ h1.1, ?_⟩
      simp [gX_uX, gX_ne, h1]
    · refine List.forall_mem_cons.mpr ⟨?_, ?_⟩
      · show w202 (0 + (1 * ρ 2 + 0)) (7 + 0) (0 + (1 * ρ 1 + 0)) (0 + (1 * (uX (0 + 1 * (ρ 2)) (7) (0 + 1 * (ρ 1))) + 0))
        try simp only [Int.zero_add, Int.add_zero, Int.one_mul]
        unfold w213 at h1
        unfold w202
        refine ⟨?_, ?_, h1.1⟩
        · simp
        · simpa using uX_nn _ _ _ h1.1
      · exact fun _ h => (by cases h)
  · exact fun _ h => (by cases h)
noncomputable def ru_pkx2 : RU := (15, [(333, [((.ofNat 0), [(0, (.ofNat 1))]), ((.ofNat 0), [(1, (.ofNat 1))])]), (213, [((.ofNat 0), [(2, (.ofNat 1))]), ((.ofNat 0), [(3, (.ofNat 1))]), ((.ofNat 0), [(4, (.ofNat 1))]), ((.ofNat 0), [(5, (.ofNat 1))]), ((.ofNat 0), [(6, (.ofNat 1))]), ((.ofNat 0), [(7, (.ofNat 1))]), ((.ofNat 0), [(8, (.ofNat 1))]), ((.ofNat 0), [(9, (.ofNat 1))]), ((.ofNat 0), [(10, (.ofNat 1))]), ((.ofNat 0), [(11, (.ofNat 1))]), ((.ofNat 0), [(12, (.ofNat 1))]), ((.ofNat 0), [(13, (.ofNat 1))]), ((.ofNat 0), [(14, (.ofNat 1))])])], [((.negSucc 1), [(0, (.ofNat 1))]), ((.ofNat 2), [(0, (.negSucc 0))])], [(213, [((.ofNat 0), [(15, (.ofNat 1))]), ((.ofNat 0), [(3, (.ofNat 1))]), ((.ofNat 0), [(4, (.ofNat 1))]), ((.ofNat 0), [(5, (.ofNat 1))]), ((.ofNat 0), [(6, (.ofNat 1))]), ((.ofNat 0), [(7, (.ofNat 1))]), ((.ofNat 0), [(8, (.ofNat 1))]), ((.ofNat 0), [(9, (.ofNat 1))]), ((.ofNat 0), [(10, (.ofNat 1))]), ((.ofNat 0), [(1, (.ofNat 1))]), ((.ofNat 0), [(12, (.ofNat 1))]), ((.ofNat 0), [(13, (.ofNat 1))]), ((.ofNat 0), [(14, (.ofNat 1))])]), (202, [((.ofNat 0), [(2, (.ofNat 1))]), ((.ofNat 8), []), ((.ofNat 0), [(1, (.ofNat 1))]), ((.ofNat 0), [(15, (.ofNat 1))])])], [], [1], 1, false)
theorem ru_pkx2_ok : RuOk ru_pkx2 := by
  refine ⟨by decide, fun ρ hp hf => ?_⟩
  have h1 : w213 (ρ 2) (ρ 3) (ρ 4) (ρ 5) (ρ 6) (ρ 7) (ρ 8) (ρ 9) (ρ 10) (ρ 11) (ρ 12) (ρ 13) (ρ 14) := by
    have q : w213 (0 + (1 * ρ 2 + 0)) (0 + (1 * ρ 3 + 0)) (0 + (1 * ρ 4 + 0)) (0 + (1 * ρ 5 + 0)) (0 + (1 * ρ 6 + 0)) (0 + (1 * ρ 7 + 0)) (0 + (1 * ρ 8 + 0)) (0 + (1 * ρ 9 + 0)) (0 + (1 * ρ 10 + 0)) (0 + (1 * ρ 11 + 0)) (0 + (1 * ρ 12 + 0)) (0 + (1 * ρ 13 + 0)) (0 + (1 * ρ 14 + 0)) := hp _ (List.mem_cons_of_mem _ List.mem_cons_self)
    simpa only [Int.zero_add, Int.add_zero, Int.one_mul] using q
  have f0 : ((-2) + (1 * ρ 0 + 0)) ≤ 0 := hf _ List.mem_cons_self
  have f1 : (2 + ((-1) * ρ 0 + 0)) ≤ 0 := hf _ (List.mem_cons_of_mem _ List.mem_cons_self)
  clear hp hf
  refine ⟨rfl, (ex1 ρ 15 (uX (0 + 1 * (ρ 2)) (8) (0 + 1 * (ρ 1)))), (ex1_agr (by decide) agr2.rf), ?_, ?_⟩
  · refine List.forall_mem_cons.mpr ⟨?_, ?_⟩
    · show w213 (0 + (1 * (uX (0 + 1 * (ρ 2)) (8) (0 + 1 * (ρ 1))) + 0)) (0 + (1 * ρ 3 + 0)) (0 + (1 * ρ 4 + 0)) (0 + (1 * ρ 5 + 0)) (0 + (1 * ρ 6 + 0)) (0 + (1 * ρ 7 + 0)) (0 + (1 * ρ 8 + 0)) (0 + (1 * ρ 9 + 0)) (0 + (1 * ρ 10 + 0)) (0 + (1 * ρ 1 + 0)) (0 + (1 * ρ 12 + 0)) (0 + (1 * ρ 13 + 0)) (0 + (1 * ρ 14 + 0))
      try simp only [Int.zero_add, Int.add_zero, Int.one_mul]
      unfold w213 at h1 ⊢
      refine ⟨uX_nn _ _ _ h1.1, ?_⟩
      simp [gX_uX, gX_ne, h1]
    · refine List.forall_mem_cons.mpr ⟨?_, ?_⟩
      · show w202 (0 + (1 * ρ 2 + 0)) (8 + 0) (0 + (1 * ρ 1 + 0)) (0 + (1 * (uX (0 + 1 * (ρ 2)) (8) (0 + 1 * (ρ 1))) + 0))
        try simp only [Int.zero_add, Int.add_zero, Int.one_mul]
        unfold w213 at h1
        unfold w202
        refine ⟨?_, ?_, h1.1⟩
        · simp
        · simpa using uX_nn _ _ _ h1.1
      · exact fun _ h => (by cases h)
  · exact fun _ h => (by cases h)
noncomputable def ru_pky3 : RU := (15, [(333, [((.ofNat 0), [(0, (.ofNat 1))]), ((.ofNat 0), [(1, (.ofNat 1))])]), (213, [((.ofNat 0), [(2, (.ofNat 1))]), ((.ofNat 0), [(3, (.ofNat 1))]), ((.ofNat 0), [(4, (.ofNat 1))]), ((.ofNat 0), [(5, (.ofNat 1))]), ((.ofNat 0), [(6, (.ofNat 1))]), ((.ofNat 0), [(7, (.ofNat 1))]), ((.ofNat 0), [(8, (.ofNat 1))]), ((.ofNat 0), [(9, (.ofNat 1))]), ((.ofNat 0), [(10, (.ofNat 1))]), ((.ofNat 0), [(11, (.ofNat 1))]), ((.ofNat 0), [(12, (.ofNat 1))]), ((.ofNat 0), [(13, (.ofNat 1))]), ((.ofNat 0), [(14, (.ofNat 1))])])], [((.negSucc 2), [(0, (.ofNat 1))]), ((.ofNat 3), [(0, (.negSucc 0))])], [(213, [((.ofNat 0), [(15, (.ofNat 1))]), ((.ofNat 0), [(3, (.ofNat 1))]), ((.ofNat 0), [(4, (.ofNat 1))]), ((.ofNat 0), [(5, (.ofNat 1))]), ((.ofNat 0), [(6, (.ofNat 1))]), ((.ofNat 0), [(7, (.ofNat 1))]), ((.ofNat 0), [(8, (.ofNat 1))]), ((.ofNat 0), [(9, (.ofNat 1))]), ((.ofNat 0), [(10, (.ofNat 1))]), ((.ofNat 0), [(11, (.ofNat 1))]), ((.ofNat 0), [(12, (.ofNat 1))]), ((.ofNat 0), [(1, (.ofNat 1))]), ((.ofNat 0), [(14, (.ofNat 1))])]), (202, [((.ofNat 0), [(2, (.ofNat 1))]), ((.ofNat 10), []), ((.ofNat 0), [(1, (.ofNat 1))]), ((.ofNat 0), [(15, (.ofNat 1))])])], [], [1], 1, false)
theorem ru_pky3_ok : RuOk ru_pky3 := by
  refine ⟨by decide, fun ρ hp hf => ?_⟩
  have h1 : w213 (ρ 2) (ρ 3) (ρ 4) (ρ 5) (ρ 6) (ρ 7) (ρ 8) (ρ 9) (ρ 10) (ρ 11) (ρ 12) (ρ 13) (ρ 14) := by
    have q : w213 (0 + (1 * ρ 2 + 0)) (0 + (1 * ρ 3 + 0)) (0 + (1 * ρ 4 + 0)) (0 + (1 * ρ 5 + 0)) (0 + (1 * ρ 6 + 0)) (0 + (1 * ρ 7 + 0)) (0 + (1 * ρ 8 + 0)) (0 + (1 * ρ 9 + 0)) (0 + (1 * ρ 10 + 0)) (0 + (1 * ρ 11 + 0)) (0 + (1 * ρ 12 + 0)) (0 + (1 * ρ 13 + 0)) (0 + (1 * ρ 14 + 0)) := hp _ (List.mem_cons_of_mem _ List.mem_cons_self)
    simpa only [Int.zero_add, Int.add_zero, Int.one_mul] using q
  have f0 : ((-3) + (1 * ρ 0 + 0)) ≤ 0 := hf _ List.mem_cons_self
  have f1 : (3 + ((-1) * ρ 0 + 0)) ≤ 0 := hf _ (List.mem_cons_of_mem _ List.mem_cons_self)
  clear hp hf
  refine ⟨rfl, (ex1 ρ 15 (uX (0 + 1 * (ρ 2)) (10) (0 + 1 * (ρ 1)))), (ex1_agr (by decide) agr2.rf), ?_, ?_⟩
  · refine List.forall_mem_cons.mpr ⟨?_, ?_⟩
    · show w213 (0 + (1 * (uX (0 + 1 * (ρ 2)) (10) (0 + 1 * (ρ 1))) + 0)) (0 + (1 * ρ 3 + 0)) (0 + (1 * ρ 4 + 0)) (0 + (1 * ρ 5 + 0)) (0 + (1 * ρ 6 + 0)) (0 + (1 * ρ 7 + 0)) (0 + (1 * ρ 8 + 0)) (0 + (1 * ρ 9 + 0)) (0 + (1 * ρ 10 + 0)) (0 + (1 * ρ 11 + 0)) (0 + (1 * ρ 12 + 0)) (0 + (1 * ρ 1 + 0)) (0 + (1 * ρ 14 + 0))
      try simp only [Int.zero_add, Int.add_zero, Int.one_mul]
      unfold w213 at h1 ⊢
      refine ⟨uX_nn _ _ _ h1.1, ?_⟩
      simp [gX_uX, gX_ne, h1]
    · refine List.forall_mem_cons.mpr ⟨?_, ?_⟩
      · show w202 (0 + (1 * ρ 2 + 0)) (10 + 0) (0 + (1 * ρ 1 + 0)) (0 + (1 * (uX (0 + 1 * (ρ 2)) (10) (0 + 1 * (ρ 1))) + 0))
        try simp only [Int.zero_add, Int.add_zero, Int.one_mul]
        unfold w213 at h1
        unfold w202
        refine ⟨?_, ?_, h1.1⟩
        · simp
        · simpa using uX_nn _ _ _ h1.1
      · exact fun _ h => (by cases h)
  · exact fun _ h => (by cases h)
noncomputable def ru_pkx3 : RU := (15, [(333, [((.ofNat 0), [(0, (.ofNat 1))]), ((.ofNat 0), [(1, (.ofNat 1))])]), (213, [((.ofNat 0), [(2, (.ofNat 1))]), ((.ofNat 0), [(3, (.ofNat 1))]), ((.ofNat 0), [(4, (.ofNat 1))]), ((.ofNat 0), [(5, (.ofNat 1))]), ((.ofNat 0), [(6, (.ofNat 1))]), ((.ofNat 0), [(7, (.ofNat 1))]), ((.ofNat 0), [(8, (.ofNat 1))]), ((.ofNat 0), [(9, (.ofNat 1))]), ((.ofNat 0), [(10, (.ofNat 1))]), ((.ofNat 0), [(11, (.ofNat 1))]), ((.ofNat 0), [(12, (.ofNat 1))]), ((.ofNat 0), [(13, (.ofNat 1))]), ((.ofNat 0), [(14, (.ofNat 1))])])], [((.negSucc 2), [(0, (.ofNat 1))]), ((.ofNat 3), [(0, (.negSucc 0))])], [(213, [((.ofNat 0), [(15, (.ofNat 1))]), ((.ofNat 0), [(3, (.ofNat 1))]), ((.ofNat 0), [(4, (.ofNat 1))]), ((.ofNat 0), [(5, (.ofNat 1))]), ((.ofNat 0), [(6, (.ofNat 1))]), ((.ofNat 0), [(7, (.ofNat 1))]), ((.ofNat 0), [(8, (.ofNat 1))]), ((.ofNat 0), [(9, (.ofNat 1))]), ((.ofNat 0), [(10, (.ofNat 1))]), ((.ofNat 0), [(11, (.ofNat 1))]), ((.ofNat 0), [(12, (.ofNat 1))]), ((.ofNat 0), [(13, (.ofNat 1))]), ((.ofNat 0), [(1, (.ofNat 1))])]), (202, [((.ofNat 0), [(2, (.ofNat 1))]), ((.ofNat 11), []), ((.ofNat 0), [(1, (.ofNat 1))]), ((.ofNat 0), [(15, (.ofNat 1))])])], [], [1], 1, false)
theorem ru_pkx3_ok : RuOk ru_pkx3 := by
  refine ⟨by decide, fun ρ hp hf => ?_⟩
  have h1 : w213 (ρ 2) (ρ 3) (ρ 4) (ρ 5) (ρ 6) (ρ 7) (ρ 8) (ρ 9) (ρ 10) (ρ 11) (ρ 12) (ρ 13) (ρ 14) := by
    have q : w213 (0 + (1 * ρ 2 + 0)) (0 + (1 * ρ 3 + 0)) (0 + (1 * ρ 4 + 0)) (0 + (1 * ρ 5 + 0)) (0 + (1 * ρ 6 + 0)) (0 + (1 * ρ 7 + 0)) (0 + (1 * ρ 8 + 0)) (0 + (1 * ρ 9 + 0)) (0 + (1 * ρ 10 + 0)) (0 + (1 * ρ 11 + 0)) (0 + (1 * ρ 12 + 0)) (0 + (1 * ρ 13 + 0)) (0 + (1 * ρ 14 + 0)) := hp _ (List.mem_cons_of_mem _ List.mem_cons_self)
    simpa only [Int.zero_add, Int.add_zero, Int.one_mul] using q
  have f0 : ((-3) + (1 * ρ 0 + 0)) ≤ 0 := hf _ List.mem_cons_self
  have f1 : (3 + ((-1) * ρ 0 + 0)) ≤ 0 := hf _ (List.mem_cons_of_mem _ List.mem_cons_self)
  clear hp hf
  refine ⟨rfl, (ex1 ρ 15 (uX (0 + 1 * (ρ 2)) (11) (0 + 1 * (ρ 1)))), (ex1_agr (by decide) agr2.rf), ?_, ?_⟩
  · refine List.forall_mem_cons.mpr ⟨?_, ?_⟩
    · show w213 (0 + (1 * (uX (0 + 1 * (ρ 2)) (11) (0 + 1 * (ρ 1))) + 0)) (0 + (1 * ρ 3 + 0)) (0 + (1 * ρ 4 + 0)) (0 + (1 * ρ 5 + 0)) (0 + (1 * ρ 6 + 0)) (0 + (1 * ρ 7 + 0)) (0 + (1 * ρ 8 + 0)) (0 + (1 * ρ 9 + 0)) (0 + (1 * ρ 10 + 0)) (0 + (1 * ρ 11 + 0)) (0 + (1 * ρ 12 + 0)) (0 + (1 * ρ 13 + 0)) (0 + (1 * ρ 1 + 0))
      try simp only [Int.zero_add, Int.add_zero, Int.one_mul]
      unfold w213 at h1 ⊢
      refine ⟨uX_nn _ _ _ h1.1, ?_⟩
      simp [gX_uX, gX_ne, h1]
    · refine List.forall_mem_cons.mpr ⟨?_, ?_⟩
      · show w202 (0 + (1 * ρ 2 + 0)) (11 + 0) (0 + (1 * ρ 1 + 0)) (0 + (1 * (uX (0 + 1 * (ρ 2)) (11) (0 + 1 * (ρ 1))) + 0))
        try simp only [Int.zero_add, Int.add_zero, Int.one_mul]
        unfold w213 at h1
        unfold w202
        refine ⟨?_, ?_, h1.1⟩
        · simp
        · simpa using uX_nn _ _ _ h1.1
      · exact fun _ h => (by cases h)
  · exact fun _ h => (by cases h)
