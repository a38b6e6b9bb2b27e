/-! ===== the law on every script of at most six ints ===== -/
theorem lawRuns_of {xs : List Int32} {R : Res} (h : LX xs (18, [], lv3, hXM, 77, 6846) R) (g : good R) : lawRuns xs := by
  obtain ⟨F, n, kc, ks, he, e1, e2⟩ := law_pre h
  obtain ⟨r, σ', a, b⟩ := R
  obtain ⟨g1, g2, g3⟩ := g
  dsimp only at he e1 e2 g1 g2 g3
  subst g1
  exact ⟨F, 12, n, σ', kc, ks, he, by decide, by omega, by omega⟩
set_option maxRecDepth 100000 in
theorem law_short0 : lawRuns [] := by
  refine lawRuns_of (R := (some (.int 1), hXM, 77, 6846)) ?_ ⟨rfl, by decide, by decide⟩
  refine Ex.steps 2 (S' := (20, [.ref sIdx, .int 0], lv3, hXM, 77, 6846)) rfl ?_
  refine Ex.steps 1 (S' := (21, [.int 0, .int 0], lv3, hXM, 77, 6846)) rfl ?_
  refine Ex.steps 2 (S' := (24, [.int (-6), .int 0], lv3, hXM, 77, 6846)) rfl ?_
  refine Ex.steps 1 (S' := (1365, [], lv3, hXM, 77, 6846)) rfl ?_
  refine Ex.steps 1 (S' := (1366, [.int 1], lv3, hXM, 77, 6846)) rfl ?_
  exact Ex.ret rfl rfl
set_option maxRecDepth 100000 in
theorem law_short1 (x0 : Int32) : lawRuns [x0] := by
  refine lawRuns_of (R := (some (.int 1), hXM, 77, 6846)) ?_ ⟨rfl, by decide, by decide⟩
  refine Ex.steps 2 (S' := (20, [.ref sIdx, .int 0], lv3, hXM, 77, 6846)) rfl ?_
  refine Ex.steps 1 (S' := (21, [.int 1, .int 0], lv3, hXM, 77, 6846)) rfl ?_
  refine Ex.steps 2 (S' := (24, [.int (-5), .int 0], lv3, hXM, 77, 6846)) rfl ?_
  refine Ex.steps 1 (S' := (1365, [], lv3, hXM, 77, 6846)) rfl ?_
  refine Ex.steps 1 (S' := (1366, [.int 1], lv3, hXM, 77, 6846)) rfl ?_
  exact Ex.ret rfl rfl
set_option maxRecDepth 100000 in
theorem law_short2 (x0 x1 : Int32) : lawRuns [x0, x1] := by
  refine lawRuns_of (R := (some (.int 1), hXM, 77, 6846)) ?_ ⟨rfl, by decide, by decide⟩
  refine Ex.steps 2 (S' := (20, [.ref sIdx, .int 0], lv3, hXM, 77, 6846)) rfl ?_
  refine Ex.steps 1 (S' := (21, [.int 2, .int 0], lv3, hXM, 77, 6846)) rfl ?_
  refine Ex.steps 2 (S' := (24, [.int (-4), .int 0], lv3, hXM, 77, 6846)) rfl ?_
  refine Ex.steps 1 (S' := (1365, [], lv3, hXM, 77, 6846)) rfl ?_
  refine Ex.steps 1 (S' := (1366, [.int 1], lv3, hXM, 77, 6846)) rfl ?_
  exact Ex.ret rfl rfl
set_option maxRecDepth 100000 in
theorem law_short3 (x0 x1 x2 : Int32) : lawRuns [x0, x1, x2] := by
  refine lawRuns_of (R := (some (.int 1), hXM, 77, 6846)) ?_ ⟨rfl, by decide, by decide⟩
  refine Ex.steps 2 (S' := (20, [.ref sIdx, .int 0], lv3, hXM, 77, 6846)) rfl ?_
  refine Ex.steps 1 (S' := (21, [.int 3, .int 0], lv3, hXM, 77, 6846)) rfl ?_
  refine Ex.steps 2 (S' := (24, [.int (-3), .int 0], lv3, hXM, 77, 6846)) rfl ?_
  refine Ex.steps 1 (S' := (1365, [], lv3, hXM, 77, 6846)) rfl ?_
  refine Ex.steps 1 (S' := (1366, [.int 1], lv3, hXM, 77, 6846)) rfl ?_
  exact Ex.ret rfl rfl
set_option maxRecDepth 100000 in
theorem law_short4 (x0 x1 x2 x3 : Int32) : lawRuns [x0, x1, x2, x3] := by
  refine lawRuns_of (R := (some (.int 1), hXM, 77, 6846)) ?_ ⟨rfl, by decide, by decide⟩
  refine Ex.steps 2 (S' := (20, [.ref sIdx, .int 0], lv3, hXM, 77, 6846)) rfl ?_
  refine Ex.steps 1 (S' := (21, [.int 4, .int 0], lv3, hXM, 77, 6846)) rfl ?_
  refine Ex.steps 2 (S' := (24, [.int (-2), .int 0], lv3, hXM, 77, 6846)) rfl ?_
  refine Ex.steps 1 (S' := (1365, [], lv3, hXM, 77, 6846)) rfl ?_
  refine Ex.steps 1 (S' := (1366, [.int 1], lv3, hXM, 77, 6846)) rfl ?_
  exact Ex.ret rfl rfl
set_option maxRecDepth 100000 in
theorem law_short5 (x0 x1 x2 x3 x4 : Int32) : lawRuns [x0, x1, x2, x3, x4] := by
  refine lawRuns_of (R := (some (.int 1), hXM, 77, 6846)) ?_ ⟨rfl, by decide, by decide⟩
  refine Ex.steps 2 (S' := (20, [.ref sIdx, .int 0], lv3, hXM, 77, 6846)) rfl ?_
  refine Ex.steps 1 (S' := (21, [.int 5, .int 0], lv3, hXM, 77, 6846)) rfl ?_
  refine Ex.steps 2 (S' := (24, [.int (-1), .int 0], lv3, hXM, 77, 6846)) rfl ?_
  refine Ex.steps 1 (S' := (1365, [], lv3, hXM, 77, 6846)) rfl ?_
  refine Ex.steps 1 (S' := (1366, [.int 1], lv3, hXM, 77, 6846)) rfl ?_
  exact Ex.ret rfl rfl
set_option maxRecDepth 100000 in
theorem law_head {x0 x1 x2 x3 x4 x5 : Int32} {R : Res} (h : LX [x0, x1, x2, x3, x4, x5] (33, [.int (x0 &&& 63)], lv3, hXM, 77, 6846) R) : LX [x0, x1, x2, x3, x4, x5] (18, [], lv3, hXM, 77, 6846) R := by
  refine Ex.steps 2 (S' := (20, [.ref sIdx, .int 0], lv3, hXM, 77, 6846)) rfl ?_
  refine Ex.steps 1 (S' := (21, [.int 6, .int 0], lv3, hXM, 77, 6846)) rfl ?_
  refine Ex.steps 2 (S' := (24, [.int 0, .int 0], lv3, hXM, 77, 6846)) rfl ?_
  refine Ex.steps 1 (S' := (27, [], lv3, hXM, 77, 6846)) rfl ?_
  refine Ex.steps 3 (S' := (30, [.int x0], lv3, hXM, 77, 6846)) rfl ?_
  exact Ex.steps 2 (S' := (33, [.int (x0 &&& 63)], lv3, hXM, 77, 6846)) rfl h
set_option maxRecDepth 100000 in
theorem law_at0 (x0 x1 x2 x3 x4 x5 : Int32) (hj : x0 &&& 63 = nI 0) : lawRuns [x0, x1, x2, x3, x4, x5] := by
  obtain ⟨R, h, g⟩ := law_0 (x0 := x0) (x1 := x1) (x2 := x2) (x3 := x3) (x4 := x4) (x5 := x5) (both_lanes x1)
  refine lawRuns_of (law_head ?_) g
  rw [hj]
  exact Ex.steps 1 (S' := (196, [], lv3, hXM, 77, 6846)) rfl h
set_option maxRecDepth 100000 in
theorem law_at1 (x0 x1 x2 x3 x4 x5 : Int32) (hj : x0 &&& 63 = nI 1) : lawRuns [x0, x1, x2, x3, x4, x5] := by
  obtain ⟨R, h, g⟩ := law_1 (x0 := x0) (x1 := x1) (x2 := x2) (x3 := x3) (x4 := x4) (x5 := x5) (both_step x1 x2 x3 x4)
  refine lawRuns_of (law_head ?_) g
  rw [hj]
  exact Ex.steps 1 (S' := (219, [], lv3, hXM, 77, 6846)) rfl h
set_option maxRecDepth 100000 in
theorem law_at2 (x0 x1 x2 x3 x4 x5 : Int32) (hj : x0 &&& 63 = nI 2) : lawRuns [x0, x1, x2, x3, x4, x5] := by
  obtain ⟨R, h, g⟩ := law_2 (x0 := x0) (x1 := x1) (x2 := x2) (x3 := x3) (x4 := x4) (x5 := x5) (both_part x1 x2 x3)
  refine lawRuns_of (law_head ?_) g
  rw [hj]
  exact Ex.steps 1 (S' := (272, [], lv3, hXM, 77, 6846)) rfl h
set_option maxRecDepth 100000 in
theorem law_at3 (x0 x1 x2 x3 x4 x5 : Int32) (hj : x0 &&& 63 = nI 3) : lawRuns [x0, x1, x2, x3, x4, x5] := by
  obtain ⟨R, h, g⟩ := law_3 (x0 := x0) (x1 := x1) (x2 := x2) (x3 := x3) (x4 := x4) (x5 := x5) (both_slot x1 x2 x3)
  refine lawRuns_of (law_head ?_) g
  rw [hj]
  exact Ex.steps 1 (S' := (315, [], lv3, hXM, 77, 6846)) rfl h
set_option maxRecDepth 100000 in
theorem law_at4 (x0 x1 x2 x3 x4 x5 : Int32) (hj : x0 &&& 63 = nI 4) : lawRuns [x0, x1, x2, x3, x4, x5] := by
  obtain ⟨R, h, g⟩ := law_4 (x0 := x0) (x1 := x1) (x2 := x2) (x3 := x3) (x4 := x4) (x5 := x5) (both_unslot)
  refine lawRuns_of (law_head ?_) g
  rw [hj]
  exact Ex.steps 1 (S' := (358, [], lv3, hXM, 77, 6846)) rfl h
set_option maxRecDepth 100000 in
theorem law_at5 (x0 x1 x2 x3 x4 x5 : Int32) (hj : x0 &&& 63 = nI 5) : lawRuns [x0, x1, x2, x3, x4, x5] := by
  obtain ⟨R, h, g⟩ := law_5 (x0 := x0) (x1 := x1) (x2 := x2) (x3 := x3) (x4 := x4) (x5 := x5) (both_word x1 x2 x3)
  refine lawRuns_of (law_head ?_) g
  rw [hj]
  exact Ex.steps 1 (S' := (371, [], lv3, hXM, 77, 6846)) rfl h
set_option maxRecDepth 100000 in
theorem law_at6 (x0 x1 x2 x3 x4 x5 : Int32) (hj : x0 &&& 63 = nI 6) : lawRuns [x0, x1, x2, x3, x4, x5] := by
  obtain ⟨R, h, g⟩ := law_6 (x0 := x0) (x1 := x1) (x2 := x2) (x3 := x3) (x4 := x4) (x5 := x5) (both_aside x1 x2)
  refine lawRuns_of (law_head ?_) g
  rw [hj]
  exact Ex.steps 1 (S' := (414, [], lv3, hXM, 77, 6846)) rfl h
set_option maxRecDepth 100000 in
theorem law_at7 (x0 x1 x2 x3 x4 x5 : Int32) (hj : x0 &&& 63 = nI 7) : lawRuns [x0, x1, x2, x3, x4, x5] := by
  obtain ⟨R, h, g⟩ := law_7 (x0 := x0) (x1 := x1) (x2 := x2) (x3 := x3) (x4 := x4) (x5 := x5) (both_sensor x1 x2 x3 x4)
  refine lawRuns_of (law_head ?_) g
  rw [hj]
  exact Ex.steps 1 (S' := (447, [], lv3, hXM, 77, 6846)) rfl h
set_option maxRecDepth 100000 in
theorem law_at8 (x0 x1 x2 x3 x4 x5 : Int32) (hj : x0 &&& 63 = nI 8) : lawRuns [x0, x1, x2, x3, x4, x5] := by
  obtain ⟨R, h, g⟩ := law_8 (x0 := x0) (x1 := x1) (x2 := x2) (x3 := x3) (x4 := x4) (x5 := x5) (both_body x1 x2)
  refine lawRuns_of (law_head ?_) g
  rw [hj]
  exact Ex.steps 1 (S' := (500, [], lv3, hXM, 77, 6846)) rfl h
set_option maxRecDepth 100000 in
theorem law_at9 (x0 x1 x2 x3 x4 x5 : Int32) (hj : x0 &&& 63 = nI 9) : lawRuns [x0, x1, x2, x3, x4, x5] := by
  obtain ⟨R, h, g⟩ := law_9 (x0 := x0) (x1 := x1) (x2 := x2) (x3 := x3) (x4 := x4) (x5 := x5) (both_air x1 x2 x3)
  refine lawRuns_of (law_head ?_) g
  rw [hj]
  exact Ex.steps 1 (S' := (533, [], lv3, hXM, 77, 6846)) rfl h
set_option maxRecDepth 100000 in
theorem law_at10 (x0 x1 x2 x3 x4 x5 : Int32) (hj : x0 &&& 63 = nI 10) : lawRuns [x0, x1, x2, x3, x4, x5] := by
  obtain ⟨R, h, g⟩ := law_10 (x0 := x0) (x1 := x1) (x2 := x2) (x3 := x3) (x4 := x4) (x5 := x5) (both_limit x1 x2 x3)
  refine lawRuns_of (law_head ?_) g
  rw [hj]
  exact Ex.steps 1 (S' := (576, [], lv3, hXM, 77, 6846)) rfl h
set_option maxRecDepth 100000 in
theorem law_at11 (x0 x1 x2 x3 x4 x5 : Int32) (hj : x0 &&& 63 = nI 11) : lawRuns [x0, x1, x2, x3, x4, x5] := by
  obtain ⟨R, h, g⟩ := law_11 (x0 := x0) (x1 := x1) (x2 := x2) (x3 := x3) (x4 := x4) (x5 := x5) (both_write x1)
  refine lawRuns_of (law_head ?_) g
  rw [hj]
  exact Ex.steps 1 (S' := (619, [], lv3, hXM, 77, 6846)) rfl h
set_option maxRecDepth 100000 in
theorem law_at12 (x0 x1 x2 x3 x4 x5 : Int32) (hj : x0 &&& 63 = nI 12) : lawRuns [x0, x1, x2, x3, x4, x5] := by
  obtain ⟨R, h, g⟩ := law_12 (x0 := x0) (x1 := x1) (x2 := x2) (x3 := x3) (x4 := x4) (x5 := x5) (both_erase)
  refine lawRuns_of (law_head ?_) g
  rw [hj]
  exact Ex.steps 1 (S' := (642, [], lv3, hXM, 77, 6846)) rfl h
set_option maxRecDepth 100000 in
theorem law_at13 (x0 x1 x2 x3 x4 x5 : Int32) (hj : x0 &&& 63 = nI 13) : lawRuns [x0, x1, x2, x3, x4, x5] := by
  obtain ⟨R, h, g⟩ := law_13 (x0 := x0) (x1 := x1) (x2 := x2) (x3 := x3) (x4 := x4) (x5 := x5) (both_fault)
  refine lawRuns_of (law_head ?_) g
  rw [hj]
  exact Ex.steps 1 (S' := (655, [], lv3, hXM, 77, 6846)) rfl h
set_option maxRecDepth 100000 in
theorem law_at14 (x0 x1 x2 x3 x4 x5 : Int32) (hj : x0 &&& 63 = nI 14) : lawRuns [x0, x1, x2, x3, x4, x5] := by
  obtain ⟨R, h, g⟩ := law_14 (x0 := x0) (x1 := x1) (x2 := x2) (x3 := x3) (x4 := x4) (x5 := x5) (both_fly x1)
  refine lawRuns_of (law_head ?_) g
  rw [hj]
  exact Ex.steps 1 (S' := (668, [], lv3, hXM, 77, 6846)) rfl h
set_option maxRecDepth 100000 in
theorem law_at15 (x0 x1 x2 x3 x4 x5 : Int32) (hj : x0 &&& 63 = nI 15) : lawRuns [x0, x1, x2, x3, x4, x5] := by
  obtain ⟨R, h, g⟩ := law_15 (x0 := x0) (x1 := x1) (x2 := x2) (x3 := x3) (x4 := x4) (x5 := x5) (both_now x1)
  refine lawRuns_of (law_head ?_) g
  rw [hj]
  exact Ex.steps 1 (S' := (691, [], lv3, hXM, 77, 6846)) rfl h
set_option maxRecDepth 100000 in
theorem law_at16 (x0 x1 x2 x3 x4 x5 : Int32) (hj : x0 &&& 63 = nI 16) : lawRuns [x0, x1, x2, x3, x4, x5] := by
  obtain ⟨R, h, g⟩ := law_16 (x0 := x0) (x1 := x1) (x2 := x2) (x3 := x3) (x4 := x4) (x5 := x5) (both_cell x1 x2)
  refine lawRuns_of (law_head ?_) g
  rw [hj]
  exact Ex.steps 1 (S' := (714, [], lv3, hXM, 77, 6846)) rfl h
set_option maxRecDepth 100000 in
theorem law_at17 (x0 x1 x2 x3 x4 x5 : Int32) (hj : x0 &&& 63 = nI 17) : lawRuns [x0, x1, x2, x3, x4, x5] := by
  obtain ⟨R, h, g⟩ := law_17 (x0 := x0) (x1 := x1) (x2 := x2) (x3 := x3) (x4 := x4) (x5 := x5) (both_lane x1 x2)
  refine lawRuns_of (law_head ?_) g
  rw [hj]
  exact Ex.steps 1 (S' := (747, [], lv3, hXM, 77, 6846)) rfl h
set_option maxRecDepth 100000 in
theorem law_at18 (x0 x1 x2 x3 x4 x5 : Int32) (hj : x0 &&& 63 = nI 18) : lawRuns [x0, x1, x2, x3, x4, x5] := by
  obtain ⟨R, h, g⟩ := law_18 (x0 := x0) (x1 := x1) (x2 := x2) (x3 := x3) (x4 := x4) (x5 := x5) (both_voted x1 x2)
  refine lawRuns_of (law_head ?_) g
  rw [hj]
  exact Ex.steps 1 (S' := (780, [], lv3, hXM, 77, 6846)) rfl h
set_option maxRecDepth 100000 in
theorem law_at19 (x0 x1 x2 x3 x4 x5 : Int32) (hj : x0 &&& 63 = nI 19) : lawRuns [x0, x1, x2, x3, x4, x5] := by
  obtain ⟨R, h, g⟩ := law_19 (x0 := x0) (x1 := x1) (x2 := x2) (x3 := x3) (x4 := x4) (x5 := x5) (both_sensed x1)
  refine lawRuns_of (law_head ?_) g
  rw [hj]
  exact Ex.steps 1 (S' := (813, [], lv3, hXM, 77, 6846)) rfl h
set_option maxRecDepth 100000 in
theorem law_at20 (x0 x1 x2 x3 x4 x5 : Int32) (hj : x0 &&& 63 = nI 20) : lawRuns [x0, x1, x2, x3, x4, x5] := by
  obtain ⟨R, h, g⟩ := law_20 (x0 := x0) (x1 := x1) (x2 := x2) (x3 := x3) (x4 := x4) (x5 := x5) (both_harm x1 x2 x3 x4 x5)
  refine lawRuns_of (law_head ?_) g
  rw [hj]
  exact Ex.steps 1 (S' := (836, [], lv3, hXM, 77, 6846)) rfl h
set_option maxRecDepth 100000 in
theorem law_at21 (x0 x1 x2 x3 x4 x5 : Int32) (hj : x0 &&& 63 = nI 21) : lawRuns [x0, x1, x2, x3, x4, x5] := by
  obtain ⟨R, h, g⟩ := law_21 (x0 := x0) (x1 := x1) (x2 := x2) (x3 := x3) (x4 := x4) (x5 := x5) (both_piece x1 x2 x3 x4)
  refine lawRuns_of (law_head ?_) g
  rw [hj]
  exact Ex.steps 1 (S' := (899, [], lv3, hXM, 77, 6846)) rfl h
set_option maxRecDepth 100000 in
theorem law_at22 (x0 x1 x2 x3 x4 x5 : Int32) (hj : x0 &&& 63 = nI 22) : lawRuns [x0, x1, x2, x3, x4, x5] := by
  obtain ⟨R, h, g⟩ := law_22 (x0 := x0) (x1 := x1) (x2 := x2) (x3 := x3) (x4 := x4) (x5 := x5) (both_leave)
  refine lawRuns_of (law_head ?_) g
  rw [hj]
  exact Ex.steps 1 (S' := (952, [], lv3, hXM, 77, 6846)) rfl h
set_option maxRecDepth 100000 in
theorem law_at23 (x0 x1 x2 x3 x4 x5 : Int32) (hj : x0 &&& 63 = nI 23) : lawRuns [x0, x1, x2, x3, x4, x5] := by
  obtain ⟨R, h, g⟩ := law_23 (x0 := x0) (x1 := x1) (x2 := x2) (x3 := x3) (x4 := x4) (x5 := x5) (both_seal x1)
  refine lawRuns_of (law_head ?_) g
  rw [hj]
  exact Ex.steps 1 (S' := (965, [], lv3, hXM, 77, 6846)) rfl h
set_option maxRecDepth 100000 in
theorem law_at24 (x0 x1 x2 x3 x4 x5 : Int32) (hj : x0 &&& 63 = nI 24) : lawRuns [x0, x1, x2, x3, x4, x5] := by
  obtain ⟨R, h, g⟩ := law_24 (x0 := x0) (x1 := x1) (x2 := x2) (x3 := x3) (x4 := x4) (x5 := x5) (both_begin x1 x2)
  refine lawRuns_of (law_head ?_) g
  rw [hj]
  exact Ex.steps 1 (S' := (988, [], lv3, hXM, 77, 6846)) rfl h
set_option maxRecDepth 100000 in
theorem law_at25 (x0 x1 x2 x3 x4 x5 : Int32) (hj : x0 &&& 63 = nI 25) : lawRuns [x0, x1, x2, x3, x4, x5] := by
  obtain ⟨R, h, g⟩ := law_25 (x0 := x0) (x1 := x1) (x2 := x2) (x3 := x3) (x4 := x4) (x5 := x5) (both_fate x1 x2 x3 x4 x5)
  refine lawRuns_of (law_head ?_) g
  rw [hj]
  exact Ex.steps 1 (S' := (1021, [], lv3, hXM, 77, 6846)) rfl h
set_option maxRecDepth 100000 in
theorem law_at26 (x0 x1 x2 x3 x4 x5 : Int32) (hj : x0 &&& 63 = nI 26) : lawRuns [x0, x1, x2, x3, x4, x5] := by
  obtain ⟨R, h, g⟩ := law_26 (x0 := x0) (x1 := x1) (x2 := x2) (x3 := x3) (x4 := x4) (x5 := x5) (both_fates x1 x2 x3)
  refine lawRuns_of (law_head ?_) g
  rw [hj]
  exact Ex.steps 1 (S' := (1084, [], lv3, hXM, 77, 6846)) rfl h
set_option maxRecDepth 100000 in
theorem law_at27 (x0 x1 x2 x3 x4 x5 : Int32) (hj : x0 &&& 63 = nI 27) : lawRuns [x0, x1, x2, x3, x4, x5] := by
  obtain ⟨R, h, g⟩ := law_27 (x0 := x0) (x1 := x1) (x2 := x2) (x3 := x3) (x4 := x4) (x5 := x5) (both_box x1)
  refine lawRuns_of (law_head ?_) g
  rw [hj]
  exact Ex.steps 1 (S' := (1127, [], lv3, hXM, 77, 6846)) rfl h
set_option maxRecDepth 100000 in
theorem law_at28 (x0 x1 x2 x3 x4 x5 : Int32) (hj : x0 &&& 63 = nI 28) : lawRuns [x0, x1, x2, x3, x4, x5] := by
  obtain ⟨R, h, g⟩ := law_28 (x0 := x0) (x1 := x1) (x2 := x2) (x3 := x3) (x4 := x4) (x5 := x5) (both_unbox)
  refine lawRuns_of (law_head ?_) g
  rw [hj]
  exact Ex.steps 1 (S' := (1150, [], lv3, hXM, 77, 6846)) rfl h
set_option maxRecDepth 100000 in
theorem law_at29 (x0 x1 x2 x3 x4 x5 : Int32) (hj : x0 &&& 63 = nI 29) : lawRuns [x0, x1, x2, x3, x4, x5] := by
  obtain ⟨R, h, g⟩ := law_29 (x0 := x0) (x1 := x1) (x2 := x2) (x3 := x3) (x4 := x4) (x5 := x5) (both_cause)
  refine lawRuns_of (law_head ?_) g
  rw [hj]
  exact Ex.steps 1 (S' := (1163, [], lv3, hXM, 77, 6846)) rfl h
set_option maxRecDepth 100000 in
theorem law_at30 (x0 x1 x2 x3 x4 x5 : Int32) (hj : x0 &&& 63 = nI 30) : lawRuns [x0, x1, x2, x3, x4, x5] := by
  obtain ⟨R, h, g⟩ := law_30 (x0 := x0) (x1 := x1) (x2 := x2) (x3 := x3) (x4 := x4) (x5 := x5) (both_guess x1 x2)
  refine lawRuns_of (law_head ?_) g
  rw [hj]
  exact Ex.steps 1 (S' := (1176, [], lv3, hXM, 77, 6846)) rfl h
set_option maxRecDepth 100000 in
theorem law_at31 (x0 x1 x2 x3 x4 x5 : Int32) (hj : x0 &&& 63 = nI 31) : lawRuns [x0, x1, x2, x3, x4, x5] := by
  obtain ⟨R, h, g⟩ := law_31 (x0 := x0) (x1 := x1) (x2 := x2) (x3 := x3) (x4 := x4) (x5 := x5) (both_clock x1 x2 x3)
  refine lawRuns_of (law_head ?_) g
  rw [hj]
  exact Ex.steps 1 (S' := (1209, [], lv3, hXM, 77, 6846)) rfl h
set_option maxRecDepth 100000 in
theorem law_at32 (x0 x1 x2 x3 x4 x5 : Int32) (hj : x0 &&& 63 = nI 32) : lawRuns [x0, x1, x2, x3, x4, x5] := by
  obtain ⟨R, h, g⟩ := law_32 (x0 := x0) (x1 := x1) (x2 := x2) (x3 := x3) (x4 := x4) (x5 := x5) (both_near x1)
  refine lawRuns_of (law_head ?_) g
  rw [hj]
  exact Ex.steps 1 (S' := (1252, [], lv3, hXM, 77, 6846)) rfl h
set_option maxRecDepth 100000 in
theorem law_at33 (x0 x1 x2 x3 x4 x5 : Int32) (hj : x0 &&& 63 = nI 33) : lawRuns [x0, x1, x2, x3, x4, x5] := by
  obtain ⟨R, h, g⟩ := law_33 (x0 := x0) (x1 := x1) (x2 := x2) (x3 := x3) (x4 := x4) (x5 := x5) (both_image x1)
  refine lawRuns_of (law_head ?_) g
  rw [hj]
  exact Ex.steps 1 (S' := (1276, [], lv3, hXM, 77, 6846)) rfl h
set_option maxRecDepth 100000 in
theorem law_at34 (x0 x1 x2 x3 x4 x5 : Int32) (hj : x0 &&& 63 = nI 34) : lawRuns [x0, x1, x2, x3, x4, x5] := by
  obtain ⟨R, h, g⟩ := law_34 (x0 := x0) (x1 := x1) (x2 := x2) (x3 := x3) (x4 := x4) (x5 := x5) (both_from x1)
  refine lawRuns_of (law_head ?_) g
  rw [hj]
  exact Ex.steps 1 (S' := (1299, [], lv3, hXM, 77, 6846)) rfl h
set_option maxRecDepth 100000 in
theorem law_at35 (x0 x1 x2 x3 x4 x5 : Int32) (hj : x0 &&& 63 = nI 35) : lawRuns [x0, x1, x2, x3, x4, x5] := by
  obtain ⟨R, h, g⟩ := law_35 (x0 := x0) (x1 := x1) (x2 := x2) (x3 := x3) (x4 := x4) (x5 := x5) (both_count x1)
  refine lawRuns_of (law_head ?_) g
  rw [hj]
  exact Ex.steps 1 (S' := (1322, [], lv3, hXM, 77, 6846)) rfl h
set_option maxRecDepth 100000 in
theorem law_at36 (x0 x1 x2 x3 x4 x5 : Int32) (hj : x0 &&& 63 = nI 36) : lawRuns [x0, x1, x2, x3, x4, x5] := by
  obtain ⟨R, h, g⟩ := law_36 (x0 := x0) (x1 := x1) (x2 := x2) (x3 := x3) (x4 := x4) (x5 := x5) (both_digest)
  refine lawRuns_of (law_head ?_) g
  rw [hj]
  exact Ex.steps 1 (S' := (1345, [], lv3, hXM, 77, 6846)) rfl h
set_option maxRecDepth 100000 in
theorem law_at37 (x0 x1 x2 x3 x4 x5 : Int32) (hj : x0 &&& 63 = nI 37) : lawRuns [x0, x1, x2, x3, x4, x5] := by
  refine lawRuns_of (R := (some (.int 1), hXM, 77, 6846)) (law_head ?_) ⟨rfl, by decide, by decide⟩
  rw [hj]
  exact Ex.steps 1 (S' := (1359, [], lv3, hXM, 77, 6846)) rfl law_tail
set_option maxRecDepth 100000 in
theorem law_at38 (x0 x1 x2 x3 x4 x5 : Int32) (hj : x0 &&& 63 = nI 38) : lawRuns [x0, x1, x2, x3, x4, x5] := by
  refine lawRuns_of (R := (some (.int 1), hXM, 77, 6846)) (law_head ?_) ⟨rfl, by decide, by decide⟩
  rw [hj]
  exact Ex.steps 1 (S' := (1359, [], lv3, hXM, 77, 6846)) rfl law_tail
set_option maxRecDepth 100000 in
theorem law_at39 (x0 x1 x2 x3 x4 x5 : Int32) (hj : x0 &&& 63 = nI 39) : lawRuns [x0, x1, x2, x3, x4, x5] := by
  refine lawRuns_of (R := (some (.int 1), hXM, 77, 6846)) (law_head ?_) ⟨rfl, by decide, by decide⟩
  rw [hj]
  exact Ex.steps 1 (S' := (1359, [], lv3, hXM, 77, 6846)) rfl law_tail
set_option maxRecDepth 100000 in
theorem law_at40 (x0 x1 x2 x3 x4 x5 : Int32) (hj : x0 &&& 63 = nI 40) : lawRuns [x0, x1, x2, x3, x4, x5] := by
  refine lawRuns_of (R := (some (.int 1), hXM, 77, 6846)) (law_head ?_) ⟨rfl, by decide, by decide⟩
  rw [hj]
  exact Ex.steps 1 (S' := (1359, [], lv3, hXM, 77, 6846)) rfl law_tail
set_option maxRecDepth 100000 in
theorem law_at41 (x0 x1 x2 x3 x4 x5 : Int32) (hj : x0 &&& 63 = nI 41) : lawRuns [x0, x1, x2, x3, x4, x5] := by
  refine lawRuns_of (R := (some (.int 1), hXM, 77, 6846)) (law_head ?_) ⟨rfl, by decide, by decide⟩
  rw [hj]
  exact Ex.steps 1 (S' := (1359, [], lv3, hXM, 77, 6846)) rfl law_tail
set_option maxRecDepth 100000 in
theorem law_at42 (x0 x1 x2 x3 x4 x5 : Int32) (hj : x0 &&& 63 = nI 42) : lawRuns [x0, x1, x2, x3, x4, x5] := by
  refine lawRuns_of (R := (some (.int 1), hXM, 77, 6846)) (law_head ?_) ⟨rfl, by decide, by decide⟩
  rw [hj]
  exact Ex.steps 1 (S' := (1359, [], lv3, hXM, 77, 6846)) rfl law_tail
set_option maxRecDepth 100000 in
theorem law_at43 (x0 x1 x2 x3 x4 x5 : Int32) (hj : x0 &&& 63 = nI 43) : lawRuns [x0, x1, x2, x3, x4, x5] := by
  refine lawRuns_of (R := (some (.int 1), hXM, 77, 6846)) (law_head ?_) ⟨rfl, by decide, by decide⟩
  rw [hj]
  exact Ex.steps 1 (S' := (1359, [], lv3, hXM, 77, 6846)) rfl law_tail
set_option maxRecDepth 100000 in
theorem law_at44 (x0 x1 x2 x3 x4 x5 : Int32) (hj : x0 &&& 63 = nI 44) : lawRuns [x0, x1, x2, x3, x4, x5] := by
  refine lawRuns_of (R := (some (.int 1), hXM, 77, 6846)) (law_head ?_) ⟨rfl, by decide, by decide⟩
  rw [hj]
  exact Ex.steps 1 (S' := (1359, [], lv3, hXM, 77, 6846)) rfl law_tail
set_option maxRecDepth 100000 in
theorem law_at45 (x0 x1 x2 x3 x4 x5 : Int32) (hj : x0 &&& 63 = nI 45) : lawRuns [x0, x1, x2, x3, x4, x5] := by
  refine lawRuns_of (R := (some (.int 1), hXM, 77, 6846)) (law_head ?_) ⟨rfl, by decide, by decide⟩
  rw [hj]
  exact Ex.steps 1 (S' := (1359, [], lv3, hXM, 77, 6846)) rfl law_tail
set_option maxRecDepth 100000 in
theorem law_at46 (x0 x1 x2 x3 x4 x5 : Int32) (hj : x0 &&& 63 = nI 46) : lawRuns [x0, x1, x2, x3, x4, x5] := by
  refine lawRuns_of (R := (some (.int 1), hXM, 77, 6846)) (law_head ?_) ⟨rfl, by decide, by decide⟩
  rw [hj]
  exact Ex.steps 1 (S' := (1359, [], lv3, hXM, 77, 6846)) rfl law_tail
set_option maxRecDepth 100000 in
theorem law_at47 (x0 x1 x2 x3 x4 x5 : Int32) (hj : x0 &&& 63 = nI 47) : lawRuns [x0, x1, x2, x3, x4, x5] := by
  refine lawRuns_of (R := (some (.int 1), hXM, 77, 6846)) (law_head ?_) ⟨rfl, by decide, by decide⟩
  rw [hj]
  exact Ex.steps 1 (S' := (1359, [], lv3, hXM, 77, 6846)) rfl law_tail
set_option maxRecDepth 100000 in
theorem law_at48 (x0 x1 x2 x3 x4 x5 : Int32) (hj : x0 &&& 63 = nI 48) : lawRuns [x0, x1, x2, x3, x4, x5] := by
  refine lawRuns_of (R := (some (.int 1), hXM, 77, 6846)) (law_head ?_) ⟨rfl, by decide, by decide⟩
  rw [hj]
  exact Ex.steps 1 (S' := (1359, [], lv3, hXM, 77, 6846)) rfl law_tail
set_option maxRecDepth 100000 in
theorem law_at49 (x0 x1 x2 x3 x4 x5 : Int32) (hj : x0 &&& 63 = nI 49) : lawRuns [x0, x1, x2, x3, x4, x5] := by
  refine lawRuns_of (R := (some (.int 1), hXM, 77, 6846)) (law_head ?_) ⟨rfl, by decide, by decide⟩
  rw [hj]
  exact Ex.steps 1 (S' := (1359, [], lv3, hXM, 77, 6846)) rfl law_tail
set_option maxRecDepth 100000 in
theorem law_at50 (x0 x1 x2 x3 x4 x5 : Int32) (hj : x0 &&& 63 = nI 50) : lawRuns [x0, x1, x2, x3, x4, x5] := by
  refine lawRuns_of (R := (some (.int 1), hXM, 77, 6846)) (law_head ?_) ⟨rfl, by decide, by decide⟩
  rw [hj]
  exact Ex.steps 1 (S' := (1359, [], lv3, hXM, 77, 6846)) rfl law_tail
set_option maxRecDepth 100000 in
theorem law_at51 (x0 x1 x2 x3 x4 x5 : Int32) (hj : x0 &&& 63 = nI 51) : lawRuns [x0, x1, x2, x3, x4, x5] := by
  refine lawRuns_of (R := (some (.int 1), hXM, 77, 6846)) (law_head ?_) ⟨rfl, by decide, by decide⟩
  rw [hj]
  exact Ex.steps 1 (S' := (1359, [], lv3, hXM, 77, 6846)) rfl law_tail
set_option maxRecDepth 100000 in
theorem law_at52 (x0 x1 x2 x3 x4 x5 : Int32) (hj : x0 &&& 63 = nI 52) : lawRuns [x0, x1, x2, x3, x4, x5] := by
  refine lawRuns_of (R := (some (.int 1), hXM, 77, 6846)) (law_head ?_) ⟨rfl, by decide, by decide⟩
  rw [hj]
  exact Ex.steps 1 (S' := (1359, [], lv3, hXM, 77, 6846)) rfl law_tail
set_option maxRecDepth 100000 in
theorem law_at53 (x0 x1 x2 x3 x4 x5 : Int32) (hj : x0 &&& 63 = nI 53) : lawRuns [x0, x1, x2, x3, x4, x5] := by
  refine lawRuns_of (R := (some (.int 1), hXM, 77, 6846)) (law_head ?_) ⟨rfl, by decide, by decide⟩
  rw [hj]
  exact Ex.steps 1 (S' := (1359, [], lv3, hXM, 77, 6846)) rfl law_tail
set_option maxRecDepth 100000 in
theorem law_at54 (x0 x1 x2 x3 x4 x5 : Int32) (hj : x0 &&& 63 = nI 54) : lawRuns [x0, x1, x2, x3, x4, x5] := by
  refine lawRuns_of (R := (some (.int 1), hXM, 77, 6846)) (law_head ?_) ⟨rfl, by decide, by decide⟩
  rw [hj]
  exact Ex.steps 1 (S' := (1359, [], lv3, hXM, 77, 6846)) rfl law_tail
set_option maxRecDepth 100000 in
theorem law_at55 (x0 x1 x2 x3 x4 x5 : Int32) (hj : x0 &&& 63 = nI 55) : lawRuns [x0, x1, x2, x3, x4, x5] := by
  refine lawRuns_of (R := (some (.int 1), hXM, 77, 6846)) (law_head ?_) ⟨rfl, by decide, by decide⟩
  rw [hj]
  exact Ex.steps 1 (S' := (1359, [], lv3, hXM, 77, 6846)) rfl law_tail
set_option maxRecDepth 100000 in
theorem law_at56 (x0 x1 x2 x3 x4 x5 : Int32) (hj : x0 &&& 63 = nI 56) : lawRuns [x0, x1, x2, x3, x4, x5] := by
  refine lawRuns_of (R := (some (.int 1), hXM, 77, 6846)) (law_head ?_) ⟨rfl, by decide, by decide⟩
  rw [hj]
  exact Ex.steps 1 (S' := (1359, [], lv3, hXM, 77, 6846)) rfl law_tail
set_option maxRecDepth 100000 in
theorem law_at57 (x0 x1 x2 x3 x4 x5 : Int32) (hj : x0 &&& 63 = nI 57) : lawRuns [x0, x1, x2, x3, x4, x5] := by
  refine lawRuns_of (R := (some (.int 1), hXM, 77, 6846)) (law_head ?_) ⟨rfl, by decide, by decide⟩
  rw [hj]
  exact Ex.steps 1 (S' := (1359, [], lv3, hXM, 77, 6846)) rfl law_tail
set_option maxRecDepth 100000 in
theorem law_at58 (x0 x1 x2 x3 x4 x5 : Int32) (hj : x0 &&& 63 = nI 58) : lawRuns [x0, x1, x2, x3, x4, x5] := by
  refine lawRuns_of (R := (some (.int 1), hXM, 77, 6846)) (law_head ?_) ⟨rfl, by decide, by decide⟩
  rw [hj]
  exact Ex.steps 1 (S' := (1359, [], lv3, hXM, 77, 6846)) rfl law_tail
set_option maxRecDepth 100000 in
theorem law_at59 (x0 x1 x2 x3 x4 x5 : Int32) (hj : x0 &&& 63 = nI 59) : lawRuns [x0, x1, x2, x3, x4, x5] := by
  refine lawRuns_of (R := (some (.int 1), hXM, 77, 6846)) (law_head ?_) ⟨rfl, by decide, by decide⟩
  rw [hj]
  exact Ex.steps 1 (S' := (1359, [], lv3, hXM, 77, 6846)) rfl law_tail
set_option maxRecDepth 100000 in
theorem law_at60 (x0 x1 x2 x3 x4 x5 : Int32) (hj : x0 &&& 63 = nI 60) : lawRuns [x0, x1, x2, x3, x4, x5] := by
  refine lawRuns_of (R := (some (.int 1), hXM, 77, 6846)) (law_head ?_) ⟨rfl, by decide, by decide⟩
  rw [hj]
  exact Ex.steps 1 (S' := (1359, [], lv3, hXM, 77, 6846)) rfl law_tail
set_option maxRecDepth 100000 in
theorem law_at61 (x0 x1 x2 x3 x4 x5 : Int32) (hj : x0 &&& 63 = nI 61) : lawRuns [x0, x1, x2, x3, x4, x5] := by
  refine lawRuns_of (R := (some (.int 1), hXM, 77, 6846)) (law_head ?_) ⟨rfl, by decide, by decide⟩
  rw [hj]
  exact Ex.steps 1 (S' := (1359, [], lv3, hXM, 77, 6846)) rfl law_tail
set_option maxRecDepth 100000 in
theorem law_at62 (x0 x1 x2 x3 x4 x5 : Int32) (hj : x0 &&& 63 = nI 62) : lawRuns [x0, x1, x2, x3, x4, x5] := by
  refine lawRuns_of (R := (some (.int 1), hXM, 77, 6846)) (law_head ?_) ⟨rfl, by decide, by decide⟩
  rw [hj]
  exact Ex.steps 1 (S' := (1359, [], lv3, hXM, 77, 6846)) rfl law_tail
set_option maxRecDepth 100000 in
theorem law_at63 (x0 x1 x2 x3 x4 x5 : Int32) (hj : x0 &&& 63 = nI 63) : lawRuns [x0, x1, x2, x3, x4, x5] := by
  refine lawRuns_of (R := (some (.int 1), hXM, 77, 6846)) (law_head ?_) ⟨rfl, by decide, by decide⟩
  rw [hj]
  exact Ex.steps 1 (S' := (1359, [], lv3, hXM, 77, 6846)) rfl law_tail
theorem law_six (x0 x1 x2 x3 x4 x5 : Int32) : lawRuns [x0, x1, x2, x3, x4, x5] := by
  obtain ⟨j, hj, e⟩ := pk_andE x0 (m := 63) 6 rfl
  match j, hj, e with
  | 0, _, e => exact law_at0 x0 x1 x2 x3 x4 x5 e
  | 1, _, e => exact law_at1 x0 x1 x2 x3 x4 x5 e
  | 2, _, e => exact law_at2 x0 x1 x2 x3 x4 x5 e
  | 3, _, e => exact law_at3 x0 x1 x2 x3 x4 x5 e
  | 4, _, e => exact law_at4 x0 x1 x2 x3 x4 x5 e
  | 5, _, e => exact law_at5 x0 x1 x2 x3 x4 x5 e
  | 6, _, e => exact law_at6 x0 x1 x2 x3 x4 x5 e
  | 7, _, e => exact law_at7 x0 x1 x2 x3 x4 x5 e
  | 8, _, e => exact law_at8 x0 x1 x2 x3 x4 x5 e
  | 9, _, e => exact law_at9 x0 x1 x2 x3 x4 x5 e
  | 10, _, e => exact law_at10 x0 x1 x2 x3 x4 x5 e
  | 11, _, e => exact law_at11 x0 x1 x2 x3 x4 x5 e
  | 12, _, e => exact law_at12 x0 x1 x2 x3 x4 x5 e
  | 13, _, e => exact law_at13 x0 x1 x2 x3 x4 x5 e
  | 14, _, e => exact law_at14 x0 x1 x2 x3 x4 x5 e
  | 15, _, e => exact law_at15 x0 x1 x2 x3 x4 x5 e
  | 16, _, e => exact law_at16 x0 x1 x2 x3 x4 x5 e
  | 17, _, e => exact law_at17 x0 x1 x2 x3 x4 x5 e
  | 18, _, e => exact law_at18 x0 x1 x2 x3 x4 x5 e
  | 19, _, e => exact law_at19 x0 x1 x2 x3 x4 x5 e
  | 20, _, e => exact law_at20 x0 x1 x2 x3 x4 x5 e
  | 21, _, e => exact law_at21 x0 x1 x2 x3 x4 x5 e
  | 22, _, e => exact law_at22 x0 x1 x2 x3 x4 x5 e
  | 23, _, e => exact law_at23 x0 x1 x2 x3 x4 x5 e
  | 24, _, e => exact law_at24 x0 x1 x2 x3 x4 x5 e
  | 25, _, e => exact law_at25 x0 x1 x2 x3 x4 x5 e
  | 26, _, e => exact law_at26 x0 x1 x2 x3 x4 x5 e
  | 27, _, e => exact law_at27 x0 x1 x2 x3 x4 x5 e
  | 28, _, e => exact law_at28 x0 x1 x2 x3 x4 x5 e
  | 29, _, e => exact law_at29 x0 x1 x2 x3 x4 x5 e
  | 30, _, e => exact law_at30 x0 x1 x2 x3 x4 x5 e
  | 31, _, e => exact law_at31 x0 x1 x2 x3 x4 x5 e
  | 32, _, e => exact law_at32 x0 x1 x2 x3 x4 x5 e
  | 33, _, e => exact law_at33 x0 x1 x2 x3 x4 x5 e
  | 34, _, e => exact law_at34 x0 x1 x2 x3 x4 x5 e
  | 35, _, e => exact law_at35 x0 x1 x2 x3 x4 x5 e
  | 36, _, e => exact law_at36 x0 x1 x2 x3 x4 x5 e
  | 37, _, e => exact law_at37 x0 x1 x2 x3 x4 x5 e
  | 38, _, e => exact law_at38 x0 x1 x2 x3 x4 x5 e
  | 39, _, e => exact law_at39 x0 x1 x2 x3 x4 x5 e
  | 40, _, e => exact law_at40 x0 x1 x2 x3 x4 x5 e
  | 41, _, e => exact law_at41 x0 x1 x2 x3 x4 x5 e
  | 42, _, e => exact law_at42 x0 x1 x2 x3 x4 x5 e
  | 43, _, e => exact law_at43 x0 x1 x2 x3 x4 x5 e
  | 44, _, e => exact law_at44 x0 x1 x2 x3 x4 x5 e
  | 45, _, e => exact law_at45 x0 x1 x2 x3 x4 x5 e
  | 46, _, e => exact law_at46 x0 x1 x2 x3 x4 x5 e
  | 47, _, e => exact law_at47 x0 x1 x2 x3 x4 x5 e
  | 48, _, e => exact law_at48 x0 x1 x2 x3 x4 x5 e
  | 49, _, e => exact law_at49 x0 x1 x2 x3 x4 x5 e
  | 50, _, e => exact law_at50 x0 x1 x2 x3 x4 x5 e
  | 51, _, e => exact law_at51 x0 x1 x2 x3 x4 x5 e
  | 52, _, e => exact law_at52 x0 x1 x2 x3 x4 x5 e
  | 53, _, e => exact law_at53 x0 x1 x2 x3 x4 x5 e
  | 54, _, e => exact law_at54 x0 x1 x2 x3 x4 x5 e
  | 55, _, e => exact law_at55 x0 x1 x2 x3 x4 x5 e
  | 56, _, e => exact law_at56 x0 x1 x2 x3 x4 x5 e
  | 57, _, e => exact law_at57 x0 x1 x2 x3 x4 x5 e
  | 58, _, e => exact law_at58 x0 x1 x2 x3 x4 x5 e
  | 59, _, e => exact law_at59 x0 x1 x2 x3 x4 x5 e
  | 60, _, e => exact law_at60 x0 x1 x2 x3 x4 x5 e
  | 61, _, e => exact law_at61 x0 x1 x2 x3 x4 x5 e
  | 62, _, e => exact law_at62 x0 x1 x2 x3 x4 x5 e
  | 63, _, e => exact law_at63 x0 x1 x2 x3 x4 x5 e
  | j + 64, hj, _ => exact absurd hj (by omega)
theorem law_runs (xs : List Int32) (h : xs.length ≤ 6) : lawRuns xs := by
  match xs, h with
  | [], _ => exact law_short0
  | [x0], _ => exact law_short1 x0
  | [x0, x1], _ => exact law_short2 x0 x1
  | [x0, x1, x2], _ => exact law_short3 x0 x1 x2
  | [x0, x1, x2, x3], _ => exact law_short4 x0 x1 x2 x3
  | [x0, x1, x2, x3, x4], _ => exact law_short5 x0 x1 x2 x3 x4
  | [x0, x1, x2, x3, x4, x5], _ => exact law_six x0 x1 x2 x3 x4 x5
  | _ :: _ :: _ :: _ :: _ :: _ :: _ :: _, h => exact absurd h (by simp only [List.length_cons]; omega)
