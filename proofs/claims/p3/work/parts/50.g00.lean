/-! ===== contracts, written by wip/vse3/emitlaw.py ===== -/
noncomputable def c2_0 : Ct := (2, 1, (0, [], [], [qvR 0], [qoC 3 [qvN, qvN, qvK (.ofNat 0), qvN, qvN, qvN]], []),
  [((0, [], [], [], [qoC 3 [qvR 1, qvR 2, qvK (.ofNat 0), qvR 3, qvR 4, qvR 5], qiC 0 [qgN 6 0 0], qiC 0 [qgN 6 0 0], qiC 0 [qgN 8 0 0], qiC 0 [qgN 8 0 0], qiC 0 [qgN 8 0 0]], []), 5, 36)])
noncomputable def c2_0_e : List Ct := []
noncomputable def c2_0_pts : List PE := []
set_option maxRecDepth 100000 in
theorem c2_0_k : enCtF c2_0 c2_0_e (pkP (c2_0_pts ++ []) []) (none) noH 4000 = true := by decide +kernel
set_option maxRecDepth 100000 in
theorem c2_0_v : ValidC PPk c2_0 := ct_ok fpk noH_ok (d := 0) (ext := []) (pts := c2_0_pts) (env := c2_0_e) rfl (fun _ h => (by cases h)) ext_nil (fun q h => (by cases h)) (enF c2_0_k) (fun _ h => (by cases h))

noncomputable def c3_0 : Ct := (3, 1, (0, [], [], [qvR 0], [qoC 4 [qvK (.ofNat 0), qvN, qvN, qvN, qvN]], []),
  [((0, [], [], [], [qoC 4 [qvK (.ofNat 0), qvR 1, qvR 2, qvR 3, qvR 4], qiC 0 [qgN 6 0 0], qiC 0 [qgN 6 0 0], qiC 0 [qgN 6 0 0], qiC 0 [qgN 6 0 0]], []), 4, 24)])
noncomputable def c3_0_e : List Ct := []
noncomputable def c3_0_pts : List PE := []
set_option maxRecDepth 100000 in
theorem c3_0_k : enCtF c3_0 c3_0_e (pkP (c3_0_pts ++ []) []) (none) noH 4000 = true := by decide +kernel
set_option maxRecDepth 100000 in
theorem c3_0_v : ValidC PPk c3_0 := ct_ok fpk noH_ok (d := 0) (ext := []) (pts := c3_0_pts) (env := c3_0_e) rfl (fun _ h => (by cases h)) ext_nil (fun q h => (by cases h)) (enF c3_0_k) (fun _ h => (by cases h))

noncomputable def c4_0 : Ct := (4, 1, (0, [], [], [qvR 0], [qoC 5 [qvK (.ofNat 0), qvN, qvK (.ofNat 0), qvK (.ofNat 0), qvK (.ofNat 0), qvN, qvN]], []),
  [((0, [], [], [], [qoC 5 [qvK (.ofNat 0), qvR 1, qvK (.ofNat 1), qvK (.ofNat 0), qvK (.ofNat 0), qvR 2, qvR 3], qiC 2 [qgN 60 0 0], qiC 0 [qgN 60 0 0], qjC 1 1000000060], []), 3, 180)])
noncomputable def c4_0_e : List Ct := []
noncomputable def c4_0_pts : List PE := []
set_option maxRecDepth 100000 in
theorem c4_0_k : enCtF c4_0 c4_0_e (pkP (c4_0_pts ++ []) []) (none) noH 4000 = true := by decide +kernel
set_option maxRecDepth 100000 in
theorem c4_0_v : ValidC PPk c4_0 := ct_ok fpk noH_ok (d := 0) (ext := []) (pts := c4_0_pts) (env := c4_0_e) rfl (fun _ h => (by cases h)) ext_nil (fun q h => (by cases h)) (enF c4_0_k) (fun _ h => (by cases h))

noncomputable def c5_0 : Ct := (5, 1, (0, [], [], [qvR 0], [qoC 6 [qvK (.ofNat 0), qvN, qvN, qvN, qvN, qvN]], []),
  [((0, [], [], [], [qoC 6 [qvK (.ofNat 0), qvR 1, qvR 2, qvR 3, qvR 4, qvR 5], qiC 0 [qgN 8 0 0], qiC 0 [qgN 8 0 0], qiC 0 [qgN 8 0 0], qiC 0 [qgN 8 0 0], qiC 0 [qgN 8 0 0]], []), 5, 40)])
noncomputable def c5_0_e : List Ct := []
noncomputable def c5_0_pts : List PE := []
set_option maxRecDepth 100000 in
theorem c5_0_k : enCtF c5_0 c5_0_e (pkP (c5_0_pts ++ []) []) (none) noH 4000 = true := by decide +kernel
set_option maxRecDepth 100000 in
theorem c5_0_v : ValidC PPk c5_0 := ct_ok fpk noH_ok (d := 0) (ext := []) (pts := c5_0_pts) (env := c5_0_e) rfl (fun _ h => (by cases h)) ext_nil (fun q h => (by cases h)) (enF c5_0_k) (fun _ h => (by cases h))

noncomputable def c6_0 : Ct := (6, 1, (0, [], [], [qvR 0], [qoC 2 [qvK (.ofNat 0), qvN, qvN, qvN, qvN]], []),
  [((0, [], [], [], [qoC 2 [qvK (.ofNat 0), qvR 1, qvR 2, qvR 3, qvR 4], qiC 0 [qgN 60 0 0], qiC 0 [qgN 60 0 0], qiC 0 [qgN 60 0 0], qiC 0 [qgN 60 0 0]], [(0, [1, 2, 3, 4], []), (8, [1, 2, 3, 4], [((.ofNat 0), []), ((.ofNat 17), [])])]), 4, 240)])
noncomputable def c6_0_e : List Ct := []
noncomputable def c6_0_pts : List PE := []
set_option maxRecDepth 100000 in
theorem c6_0_k : enCtF c6_0 c6_0_e (pkP (c6_0_pts ++ []) []) (none) ((hThen (hNew 36 1 0) (atPc 36 (fZ8 0 1))), noM, 0, 68719476736, 0) 3000 = true := by decide +kernel
set_option maxRecDepth 100000 in
theorem c6_0_v : ValidC PPk c6_0 := ct_ok fpk ⟨(hThen_ok (hNew_ok 36 1 0) (atPc_ok (fZ8_ok 0 1))), noM_ok⟩ (d := 0) (ext := []) (pts := c6_0_pts) (env := c6_0_e) rfl (fun _ h => (by cases h)) ext_nil (fun q h => (by cases h)) (enF c6_0_k) (fun _ h => (by cases h))

noncomputable def zc0 : AC := qiC 0 [qgN 0 0 0, .inl ((.negSucc 99), []), qgN 0 0 0, .inl ((.negSucc 99), []), qgN 0 0 0, .inl ((.negSucc 99), []), qgN 0 0 0, .inl ((.negSucc 99), []), qgN 0 0 0]
noncomputable def zc1 : AC := qiC 0 [qgN 0 0 0, .inl ((.ofNat 100), []), qgN 0 0 0, .inl ((.ofNat 100), []), qgN 0 0 0, .inl ((.ofNat 100), []), qgN 0 0 0, .inl ((.ofNat 100), []), qgN 0 0 0]
noncomputable def c1_0 : Ct := (1, 2, (0, [], [], [qvR 0], [qoC 1 [qvK (.ofNat 0), qvN, qvN, qvN, qvN, qvK (.ofNat 0), qvK (.ofNat 0), qvN, qvK (.ofNat 0), qvK (.ofNat 0), qvN, qvN, qvN, qvN, qvK (.ofNat 0), qvN, qvN, qvN]], []),
  [((0, [], [], [], [qoC 1 [qvK (.ofNat 3), qvR 1, qvR 2, qvR 8, qvR 9, qvK (.ofNat 3), qvK (.ofNat 5), qvR 10, qvK (.ofNat 100), qvK (.ofNat 0), qvR 15, qvR 16, qvR 17, qvR 21, qvK (.ofNat 0), qvR 27, qvR 28, qvR 29], qrC 4 [some 30, some 35], qoC 3 [qvR 3, qvR 4, qvK (.ofNat 0), qvR 5, qvR 6, qvR 7], qiC 0 [qgN 6 0 0], qiC 0 [qgN 6 0 0], qiC 0 [qgN 8 0 0], qiC 0 [qgN 8 0 0], qiC 0 [qgN 8 0 0], qiC 0 [qgN 8 0 0], qiC 0 [qgN 8 0 0], qoC 4 [qvK (.ofNat 0), qvR 11, qvR 12, qvR 13, qvR 14], qiC 0 [qgN 6 0 0], qiC 0 [qgN 6 0 0], qiC 0 [qgN 6 0 0], qiC 0 [qgN 6 0 0], zc0, zc1, qoC 5 [qvK (.ofNat 0), qvR 18, qvK (.ofNat 1), qvK (.ofNat 0), qvK (.ofNat 0), qvR 19, qvR 20], qiC 2 [qgN 60 0 0], qiC 0 [qgN 60 0 0], qjC 1 1000000060, qoC 6 [qvK (.ofNat 0), qvR 22, qvR 23, qvR 24, qvR 25, qvR 26], qiC 0 [qgN 8 0 0], qiC 0 [qgN 8 0 0], qiC 0 [qgN 8 0 0], qiC 0 [qgN 8 0 0], qiC 0 [qgN 8 0 0], qiC 0 [qgN 10 0 0], qiC 0 [qgN 4 0 0], qiC 0 [qgN 4 0 0], qoC 2 [qvK (.ofNat 0), qvR 31, qvR 32, qvR 33, qvR 34], qiC 0 [qgN 60 0 0], qiC 0 [qgN 60 0 0], qiC 0 [qgN 60 0 0], qiC 0 [qgN 60 0 0], qoC 2 [qvK (.ofNat 0), qvR 36, qvR 37, qvR 38, qvR 39], qiC 0 [qgN 60 0 0], qiC 0 [qgN 60 0 0], qiC 0 [qgN 60 0 0], qiC 0 [qgN 60 0 0]], [(0, [36, 37, 38, 39], []), (0, [31, 32, 33, 34], []), (8, [36, 37, 38, 39], [((.ofNat 0), []), ((.ofNat 17), [])]), (8, [31, 32, 33, 34], [((.ofNat 0), []), ((.ofNat 17), [])])]), 39, 838)])
noncomputable def c1_0_e : List Ct := [c2_0, c3_0, c4_0, c5_0, c6_0]
noncomputable def c1_0_pts : List PE := []
set_option maxRecDepth 100000 in
theorem c1_0_k : enCtF c1_0 c1_0_e (pkP (c1_0_pts ++ []) []) (none) noH 4000 = true := by decide +kernel
set_option maxRecDepth 100000 in
theorem c1_0_v : ValidC PPk c1_0 := ct_ok fpk noH_ok (d := 1) (ext := []) (pts := c1_0_pts) (env := c1_0_e) rfl (List.forall_mem_cons.mpr ⟨⟨c2_0_v, Nat.le_of_ble_eq_true rfl⟩, List.forall_mem_cons.mpr ⟨⟨c3_0_v, Nat.le_of_ble_eq_true rfl⟩, List.forall_mem_cons.mpr ⟨⟨c4_0_v, Nat.le_of_ble_eq_true rfl⟩, List.forall_mem_cons.mpr ⟨⟨c5_0_v, Nat.le_of_ble_eq_true rfl⟩, List.forall_mem_cons.mpr ⟨⟨c6_0_v, Nat.le_of_ble_eq_true rfl⟩, fun _ h => (by cases h)⟩⟩⟩⟩⟩) ext_nil (fun q h => (by cases h)) (enF c1_0_k) (fun _ h => (by cases h))

noncomputable def zc2 : AC := qoC 9 [qvR 1, qvR 2, qvR 3, qvK (.ofNat 0)]
noncomputable def c8_0 : Ct := (8, 1, (0, [], [], [qvR 0], [qoC 9 [qvN, qvN, qvN, qvK (.ofNat 0)]], []),
  [((0, [], [], [], [zc2, qiC 0 [qgN 32 0 0], qiC 0 [qgN 8 0 0], qiC 0 [qgN 8 0 0]], []), 3, 48)])
noncomputable def c8_0_e : List Ct := []
noncomputable def c8_0_pts : List PE := []
set_option maxRecDepth 100000 in
theorem c8_0_k : enCtF c8_0 c8_0_e (pkP (c8_0_pts ++ []) []) (none) noH 4000 = true := by decide +kernel
set_option maxRecDepth 100000 in
theorem c8_0_v : ValidC PPk c8_0 := ct_ok fpk noH_ok (d := 0) (ext := []) (pts := c8_0_pts) (env := c8_0_e) rfl (fun _ h => (by cases h)) ext_nil (fun q h => (by cases h)) (enF c8_0_k) (fun _ h => (by cases h))

noncomputable def zc3 : AC := qoC 8 [qvR 1, qvK (.ofNat 0), qvK (.ofNat 0), qvK (.ofNat 0), qvK (.ofNat 0)]
noncomputable def c9_0 : Ct := (9, 1, (0, [], [], [qvR 0], [qoC 8 [qvN, qvK (.ofNat 0), qvK (.ofNat 0), qvK (.ofNat 0), qvK (.ofNat 0)]], []),
  [((0, [], [], [], [zc3, qiC 0 [qgN 12 0 0]], []), 1, 12)])
noncomputable def c9_0_e : List Ct := []
noncomputable def c9_0_pts : List PE := []
set_option maxRecDepth 100000 in
theorem c9_0_k : enCtF c9_0 c9_0_e (pkP (c9_0_pts ++ []) []) (none) noH 4000 = true := by decide +kernel
set_option maxRecDepth 100000 in
theorem c9_0_v : ValidC PPk c9_0 := ct_ok fpk noH_ok (d := 0) (ext := []) (pts := c9_0_pts) (env := c9_0_e) rfl (fun _ h => (by cases h)) ext_nil (fun q h => (by cases h)) (enF c9_0_k) (fun _ h => (by cases h))

noncomputable def c7_0 : Ct := (7, 2, (0, [], [], [qvR 0], [qoC 7 [qvN, qvK (.ofNat 0), qvN, qvN, qvN, qvK (.ofNat 0), qvK (.ofNat 0), qvK (.ofNat 0), qvK (.ofNat 0), qvK (.ofNat 0), qvK (.ofNat 0), qvK (.ofNat 0), qvK (.ofNat 0), qvK (.ofNat 0), qvK (.ofNat 0), qvK (.ofNat 0), qvK (.ofNat 0)]], []),
  [((0, [], [], [], [qoC 7 [qvR 1, qvK (.ofNat 7), qvR 2, qvR 6, qvR 7, qvK (.ofNat 0), qvK (.ofNat 0), qvK (.ofNat 0), qvK (.ofNat 0), qvK (.ofNat 0), qvK (.ofNat 0), qvK (.ofNat 0), qvK (.ofNat 0), qvK (.ofNat 0), qvK (.ofNat 0), qvK (.ofNat 0), qvK (.negSucc 0)], qrC 5 [some 8, some 10, some 12, some 14], qoC 9 [qvR 3, qvR 4, qvR 5, qvK (.ofNat 0)], qiC 0 [qgN 32 0 0], qiC 0 [qgN 8 0 0], qiC 0 [qgN 8 0 0], qiC 0 [qgN 2 0 0], qiC 0 [qgN 6 0 0], qoC 8 [qvR 9, qvK (.ofNat 0), qvK (.ofNat 0), qvK (.ofNat 0), qvK (.ofNat 0)], qiC 0 [qgN 12 0 0], qoC 8 [qvR 11, qvK (.ofNat 0), qvK (.ofNat 0), qvK (.ofNat 0), qvK (.ofNat 0)], qiC 0 [qgN 12 0 0], qoC 8 [qvR 13, qvK (.ofNat 0), qvK (.ofNat 0), qvK (.ofNat 0), qvK (.ofNat 0)], qiC 0 [qgN 12 0 0], qoC 8 [qvR 15, qvK (.ofNat 0), qvK (.ofNat 0), qvK (.ofNat 0), qvK (.ofNat 0)], qiC 0 [qgN 12 0 0]], []), 15, 132)])
noncomputable def c7_0_e : List Ct := [c8_0, c9_0]
noncomputable def c7_0_pts : List PE := []
set_option maxRecDepth 100000 in
theorem c7_0_k : enCtF c7_0 c7_0_e (pkP (c7_0_pts ++ []) []) (none) noH 4000 = true := by decide +kernel
set_option maxRecDepth 100000 in
theorem c7_0_v : ValidC PPk c7_0 := ct_ok fpk noH_ok (d := 1) (ext := []) (pts := c7_0_pts) (env := c7_0_e) rfl (List.forall_mem_cons.mpr ⟨⟨c8_0_v, Nat.le_of_ble_eq_true rfl⟩, List.forall_mem_cons.mpr ⟨⟨c9_0_v, Nat.le_of_ble_eq_true rfl⟩, fun _ h => (by cases h)⟩⟩) ext_nil (fun q h => (by cases h)) (enF c7_0_k) (fun _ h => (by cases h))

noncomputable def zc4 : AC := qoC 1 [qvK (.ofNat 3), qvR 2, qvR 13, qvR 19, qvR 20, qvK (.ofNat 3), qvK (.ofNat 5), qvR 21, qvK (.ofNat 100), qvK (.ofNat 0), qvR 26, qvR 27, qvR 28, qvR 32, qvK (.ofNat 0), qvR 38, qvR 39, qvR 40]
noncomputable def zc5 : AC := qoC 2 [qvK (.ofNat 0), qvR 4, qvR 5, qvR 6, qvR 7]
noncomputable def zc6 : AC := qoC 2 [qvK (.ofNat 0), qvR 9, qvR 10, qvR 11, qvR 12]
noncomputable def zc7 : AC := qoC 3 [qvR 14, qvR 15, qvK (.ofNat 0), qvR 16, qvR 17, qvR 18]
noncomputable def zc8 : AC := qoC 4 [qvK (.ofNat 0), qvR 22, qvR 23, qvR 24, qvR 25]
noncomputable def zc9 : AC := qoC 5 [qvK (.ofNat 0), qvR 29, qvK (.ofNat 1), qvK (.ofNat 0), qvK (.ofNat 0), qvR 30, qvR 31]
noncomputable def zc10 : AC := qoC 6 [qvK (.ofNat 0), qvR 33, qvR 34, qvR 35, qvR 36, qvR 37]
noncomputable def zc11 : AC := qoC 10 [qvR 1, qvR 41, qvR 42]
noncomputable def c10_0 : Ct := (10, 1, (0, [], [], [qvR 0, qvR 1], [qoC 10 [qvN, qvN, qvN], zc4, qrC 4 [some 3, some 8], zc5, qiC 0 [qgN 60 0 0], qiC 0 [qgN 60 0 0], qiC 0 [qgN 60 0 0], qiC 0 [qgN 60 0 0], zc6, qiC 0 [qgN 60 0 0], qiC 0 [qgN 60 0 0], qiC 0 [qgN 60 0 0], qiC 0 [qgN 60 0 0], zc7, qiC 0 [qgN 6 0 0], qiC 0 [qgN 6 0 0], qiC 0 [qgN 8 0 0], qiC 0 [qgN 8 0 0], qiC 0 [qgN 8 0 0], qiC 0 [qgN 8 0 0], qiC 0 [qgN 8 0 0], zc8, qiC 0 [qgN 6 0 0], qiC 0 [qgN 6 0 0], qiC 0 [qgN 6 0 0], qiC 0 [qgN 6 0 0], zc0, zc1, zc9, qiC 2 [qgN 60 0 0], qiC 0 [qgN 60 0 0], qjC 1 1000000060, zc10, qiC 0 [qgN 8 0 0], qiC 0 [qgN 8 0 0], qiC 0 [qgN 8 0 0], qiC 0 [qgN 8 0 0], qiC 0 [qgN 8 0 0], qiC 0 [qgN 10 0 0], qiC 0 [qgN 4 0 0], qiC 0 [qgN 4 0 0]], [(0, [9, 10, 11, 12], []), (0, [4, 5, 6, 7], []), (8, [9, 10, 11, 12], [((.ofNat 0), []), ((.ofNat 17), [])]), (8, [4, 5, 6, 7], [((.ofNat 0), []), ((.ofNat 17), [])])]),
  [((0, [], [], [], [zc11, zc4, qrC 4 [some 3, some 8], zc5, qiC 0 [qgN 60 0 0], qiC 0 [qgN 60 0 0], qiC 0 [qgN 60 0 0], qiC 0 [qgN 60 0 0], zc6, qiC 0 [qgN 60 0 0], qiC 0 [qgN 60 0 0], qiC 0 [qgN 60 0 0], qiC 0 [qgN 60 0 0], zc7, qiC 0 [qgN 6 0 0], qiC 0 [qgN 6 0 0], qiC 0 [qgN 8 0 0], qiC 0 [qgN 8 0 0], qiC 0 [qgN 8 0 0], qiC 0 [qgN 8 0 0], qiC 0 [qgN 8 0 0], zc8, qiC 0 [qgN 6 0 0], qiC 0 [qgN 6 0 0], qiC 0 [qgN 6 0 0], qiC 0 [qgN 6 0 0], zc0, zc1, zc9, qiC 2 [qgN 60 0 0], qiC 0 [qgN 60 0 0], qjC 1 1000000060, zc10, qiC 0 [qgN 8 0 0], qiC 0 [qgN 8 0 0], qiC 0 [qgN 8 0 0], qiC 0 [qgN 8 0 0], qiC 0 [qgN 8 0 0], qiC 0 [qgN 10 0 0], qiC 0 [qgN 4 0 0], qiC 0 [qgN 4 0 0], qjC 1 1000000006, qjC 1 1000000004], [(0, [9, 10, 11, 12], []), (0, [4, 5, 6, 7], []), (8, [9, 10, 11, 12], [((.ofNat 0), []), ((.ofNat 17), [])]), (8, [4, 5, 6, 7], [((.ofNat 0), []), ((.ofNat 17), [])])]), 2, 10)])
noncomputable def c10_0_e : List Ct := []
noncomputable def c10_0_pts : List PE := []
set_option maxRecDepth 100000 in
theorem c10_0_k : enCtF c10_0 c10_0_e (pkP (c10_0_pts ++ []) []) (none) noH 4000 = true := by decide +kernel
set_option maxRecDepth 100000 in
theorem c10_0_v : ValidC PPk c10_0 := ct_ok fpk noH_ok (d := 0) (ext := []) (pts := c10_0_pts) (env := c10_0_e) rfl (fun _ h => (by cases h)) ext_nil (fun q h => (by cases h)) (enF c10_0_k) (fun _ h => (by cases h))

noncomputable def zc12 : AC := qoC 0 [qvR 1, qvR 41, qvR 57, qvN, qvR 60, qvR 61]
noncomputable def zc13 : AC := qoC 10 [qvR 1, qvR 58, qvR 59]
noncomputable def c0_0 : Ct := (0, 3, (0, [], [], [qvR 0], [qoC 0 [qvN, qvN, qvN, qvN, qvN, qvN]], []),
  [((0, [], [], [], [zc12, qoC 1 [qvK (.ofNat 3), qvR 2, qvR 3, qvR 9, qvR 10, qvK (.ofNat 3), qvK (.ofNat 5), qvR 11, qvK (.ofNat 100), qvK (.ofNat 0), qvR 16, qvR 17, qvR 18, qvR 22, qvK (.ofNat 0), qvR 28, qvR 29, qvR 30], qrC 4 [some 31, some 36], qoC 3 [qvR 4, qvR 5, qvK (.ofNat 0), qvR 6, qvR 7, qvR 8], qiC 0 [qgN 6 0 0], qiC 0 [qgN 6 0 0], qiC 0 [qgN 8 0 0], qiC 0 [qgN 8 0 0], qiC 0 [qgN 8 0 0], qiC 0 [qgN 8 0 0], qiC 0 [qgN 8 0 0], qoC 4 [qvK (.ofNat 0), qvR 12, qvR 13, qvR 14, qvR 15], qiC 0 [qgN 6 0 0], qiC 0 [qgN 6 0 0], qiC 0 [qgN 6 0 0], qiC 0 [qgN 6 0 0], zc0, zc1, qoC 5 [qvK (.ofNat 0), qvR 19, qvK (.ofNat 1), qvK (.ofNat 0), qvK (.ofNat 0), qvR 20, qvR 21], qiC 2 [qgN 60 0 0], qiC 0 [qgN 60 0 0], qjC 1 1000000060, qoC 6 [qvK (.ofNat 0), qvR 23, qvR 24, qvR 25, qvR 26, qvR 27], qiC 0 [qgN 8 0 0], qiC 0 [qgN 8 0 0], qiC 0 [qgN 8 0 0], qiC 0 [qgN 8 0 0], qiC 0 [qgN 8 0 0], qiC 0 [qgN 10 0 0], qiC 0 [qgN 4 0 0], qiC 0 [qgN 4 0 0], qoC 2 [qvK (.ofNat 0), qvR 32, qvR 33, qvR 34, qvR 35], qiC 0 [qgN 60 0 0], qiC 0 [qgN 60 0 0], qiC 0 [qgN 60 0 0], qiC 0 [qgN 60 0 0], qoC 2 [qvK (.ofNat 0), qvR 37, qvR 38, qvR 39, qvR 40], qiC 0 [qgN 60 0 0], qiC 0 [qgN 60 0 0], qiC 0 [qgN 60 0 0], qiC 0 [qgN 60 0 0], qoC 7 [qvR 42, qvK (.ofNat 7), qvR 43, qvR 47, qvR 48, qvK (.ofNat 0), qvK (.ofNat 0), qvK (.ofNat 0), qvK (.ofNat 0), qvK (.ofNat 0), qvK (.ofNat 0), qvK (.ofNat 0), qvK (.ofNat 0), qvK (.ofNat 0), qvK (.ofNat 0), qvK (.ofNat 0), qvK (.negSucc 0)], qrC 5 [some 49, some 51, some 53, some 55], qoC 9 [qvR 44, qvR 45, qvR 46, qvK (.ofNat 0)], qiC 0 [qgN 32 0 0], qiC 0 [qgN 8 0 0], qiC 0 [qgN 8 0 0], qiC 0 [qgN 2 0 0], qiC 0 [qgN 6 0 0], qoC 8 [qvR 50, qvK (.ofNat 0), qvK (.ofNat 0), qvK (.ofNat 0), qvK (.ofNat 0)], qiC 0 [qgN 12 0 0], qoC 8 [qvR 52, qvK (.ofNat 0), qvK (.ofNat 0), qvK (.ofNat 0), qvK (.ofNat 0)], qiC 0 [qgN 12 0 0], qoC 8 [qvR 54, qvK (.ofNat 0), qvK (.ofNat 0), qvK (.ofNat 0), qvK (.ofNat 0)], qiC 0 [qgN 12 0 0], qoC 8 [qvR 56, qvK (.ofNat 0), qvK (.ofNat 0), qvK (.ofNat 0), qvK (.ofNat 0)], qiC 0 [qgN 12 0 0], zc13, qjC 1 1000000006, qjC 1 1000000004, qrC 6 [none, none], qrC 7 [none, none]], [(0, [37, 38, 39, 40], []), (0, [32, 33, 34, 35], []), (13, [], [((.ofNat 0), []), ((.ofNat 0), []), ((.ofNat 17), []), ((.ofNat 0), []), ((.ofNat 17), []), ((.ofNat 0), []), ((.ofNat 17), []), ((.ofNat 0), []), ((.ofNat 17), [])]), (8, [37, 38, 39, 40], [((.ofNat 0), []), ((.ofNat 17), [])]), (8, [32, 33, 34, 35], [((.ofNat 0), []), ((.ofNat 17), [])])]), 61, 1022)])
noncomputable def c0_0_e : List Ct := [c1_0, c7_0, c10_0]
noncomputable def c0_0_pts : List PE := []
set_option maxRecDepth 100000 in
theorem c0_0_k : enCtF c0_0 c0_0_e (pkP (c0_0_pts ++ []) []) (none) ((atPc 57 (fLc 0 1 1 15)), noM, 0, 144115188075855872, 0) 4000 = true := by decide +kernel
set_option maxRecDepth 100000 in
theorem c0_0_v : ValidC PPk c0_0 := ct_ok fpk ⟨(atPc_ok (fLc_ok 0 1 1 15)), noM_ok⟩ (d := 2) (ext := []) (pts := c0_0_pts) (env := c0_0_e) rfl (List.forall_mem_cons.mpr ⟨⟨c1_0_v, Nat.le_of_ble_eq_true rfl⟩, List.forall_mem_cons.mpr ⟨⟨c7_0_v, Nat.le_of_ble_eq_true rfl⟩, List.forall_mem_cons.mpr ⟨⟨c10_0_v, Nat.le_of_ble_eq_true rfl⟩, fun _ h => (by cases h)⟩⟩⟩) ext_nil (fun q h => (by cases h)) (enF c0_0_k) (fun _ h => (by cases h))

noncomputable def zc14 : AC := qoC 12 [qvR 1, qvR 2, qvR 3, qvK (.ofNat 0), qvR 4, qvR 5, qvK (.ofNat 0), qvR 6, qvR 7, qvK (.ofNat 0), qvR 8, qvK (.ofNat 0), qvR 9, qvR 10, qvR 11, qvR 12, qvK (.ofNat 0), qvK (.ofNat 0), qvK (.ofNat 0), qvR 13, qvK (.ofNat 0), qvK (.ofNat 0), qvK (.ofNat 0), qvR 14]
noncomputable def zh15 : AH := [zc14, qiC 0 [qgN 0 0 0, .inl ((.ofNat 3), []), qgN 7 0 0, .inl ((.ofNat 3), []), qgN 0 0 0, .inl ((.ofNat 5), []), qgN 7 0 0, .inl ((.ofNat 100), []), qgN 2 0 0, .inl ((.negSucc 0), []), qgN 21 0 0, .inl ((.ofNat 1), []), qgN 39 0 0, .inl ((.ofNat 1), []), qgN 39 0 0, .inl ((.ofNat 1), []), qgN 39 0 0, .inl ((.ofNat 1), []), qgN 621 0 0, .inl ((.negSucc 99), []), qgN 0 0 0, .inl ((.ofNat 100), []), qgN 0 0 0, .inl ((.negSucc 99), []), qgN 0 0 0, .inl ((.ofNat 100), []), qgN 0 0 0, .inl ((.negSucc 99), []), qgN 0 0 0, .inl ((.ofNat 100), []), qgN 0 0 0, .inl ((.negSucc 99), []), qgN 0 0 0, .inl ((.ofNat 100), []), qgN 118 0 0], qiC 0 [qgN 1820 0 0], qiC 3 [qgN 2 0 0], qiC 0 [qgN 70 0 0], qiC 0 [qgN 70 0 0], qiC 0 [qgN 70 0 0], qjC 1 1000000070, qjC 1 1000000008, qiC 0 [qgN 910 0 0], qiC 0 [qgN 910 0 0], qiC 0 [qgN 20 0 0], qiC 0 [qgN 20 0 0], qiC 0 [qgN 910 0 0], qjC 1 1000000004]
noncomputable def zh16 : AH := [zc14, qiC 0 [qgN 0 0 0, .inl ((.ofNat 3), []), qgN 7 0 0, .inl ((.ofNat 3), []), qgN 0 0 0, .inl ((.ofNat 5), []), qgN 7 0 0, .inl ((.ofNat 100), []), qgN 2 0 0, .inl ((.negSucc 0), []), qgN 21 0 0, .inl ((.ofNat 1), []), qgN 39 0 0, .inl ((.ofNat 1), []), qgN 39 0 0, .inl ((.ofNat 1), []), qgN 39 0 0, .inl ((.ofNat 1), []), qgN 747 0 0], qiC 0 [qgN 1820 0 0], qiC 3 [qgN 2 0 0], qiC 0 [qgN 70 0 0], qiC 0 [qgN 70 0 0], qiC 0 [qgN 70 0 0], qjC 1 1000000070, qjC 1 1000000008, qiC 0 [qgN 910 0 0], qiC 0 [qgN 910 0 0], qiC 0 [qgN 20 0 0], qiC 0 [qgN 20 0 0], qiC 0 [qgN 910 0 0], qjC 1 1000000004]
noncomputable def c143_0 : Ct := (143, 1, (0, [], [], [qvR 0], [qoC 12 [qvN, qvN, qvN, qvK (.ofNat 0), qvN, qvN, qvK (.ofNat 0), qvN, qvN, qvK (.ofNat 0), qvN, qvK (.ofNat 0), qvN, qvN, qvN, qvN, qvK (.ofNat 0), qvK (.ofNat 0), qvK (.ofNat 0), qvN, qvK (.ofNat 0), qvK (.ofNat 0), qvK (.ofNat 0), qvN]], [(13, [], [((.ofNat 0), []), ((.ofNat 0), []), ((.ofNat 17), []), ((.ofNat 0), []), ((.ofNat 17), []), ((.ofNat 0), []), ((.ofNat 17), []), ((.ofNat 0), []), ((.ofNat 17), [])])]),
  [((0, [], [], [], zh15, [(2, [1], []), (1, [1], []), (9, [1], [((.ofNat 440), []), ((.ofNat 0), []), ((.ofNat 17), [])]), (9, [1], [((.ofNat 200), []), ((.ofNat 0), []), ((.ofNat 17), [])]), (13, [], [((.ofNat 0), []), ((.ofNat 0), []), ((.ofNat 17), []), ((.ofNat 0), []), ((.ofNat 17), []), ((.ofNat 0), []), ((.ofNat 17), []), ((.ofNat 0), []), ((.ofNat 17), [])])]), 14, 5794)])
noncomputable def c143_0_e : List Ct := []
noncomputable def c143_0_p0 : PE := (161, [0, 1], (0, [], [], [qvR 0, qvK (.ofNat 0)], [zc14, qiC 0 [qgN 0 0 0, .inl ((.ofNat 3), []), qgN 7 0 0, .inl ((.ofNat 3), []), qgN 0 0 0, .inl ((.ofNat 5), []), qgN 7 0 0, .inl ((.ofNat 100), []), qgN 2 0 0, .inl ((.negSucc 0), []), qgN 889 0 0], qiC 0 [qgN 1820 0 0], qiC 3 [qgN 2 0 0], qiC 0 [qgN 70 0 0], qiC 0 [qgN 70 0 0], qiC 0 [qgN 70 0 0], qjC 1 1000000070, qjC 1 1000000008, qiC 0 [qgN 910 0 0], qiC 0 [qgN 910 0 0], qiC 0 [qgN 20 0 0], qiC 0 [qgN 20 0 0], qiC 0 [qgN 910 0 0], qjC 1 1000000004], [(2, [1], []), (1, [1], []), (9, [1], [((.ofNat 440), []), ((.ofNat 0), []), ((.ofNat 17), [])]), (9, [1], [((.ofNat 200), []), ((.ofNat 0), []), ((.ofNat 17), [])]), (13, [], [((.ofNat 0), []), ((.ofNat 0), []), ((.ofNat 17), []), ((.ofNat 0), []), ((.ofNat 17), []), ((.ofNat 0), []), ((.ofNat 17), []), ((.ofNat 0), []), ((.ofNat 17), [])])]), symsL 0 0, some ((.ofNat 14), []), 14, 5794)
noncomputable def c143_0_p1 : PE := (161, [0, 1], (0, [], [], [qvR 0, qvK (.ofNat 1)], [zc14, qiC 0 [qgN 0 0 0, .inl ((.ofNat 3), []), qgN 7 0 0, .inl ((.ofNat 3), []), qgN 0 0 0, .inl ((.ofNat 5), []), qgN 7 0 0, .inl ((.ofNat 100), []), qgN 2 0 0, .inl ((.negSucc 0), []), qgN 21 0 0, .inl ((.ofNat 1), []), qgN 867 0 0], qiC 0 [qgN 1820 0 0], qiC 3 [qgN 2 0 0], qiC 0 [qgN 70 0 0], qiC 0 [qgN 70 0 0], qiC 0 [qgN 70 0 0], qjC 1 1000000070, qjC 1 1000000008, qiC 0 [qgN 910 0 0], qiC 0 [qgN 910 0 0], qiC 0 [qgN 20 0 0], qiC 0 [qgN 20 0 0], qiC 0 [qgN 910 0 0], qjC 1 1000000004], [(2, [1], []), (1, [1], []), (9, [1], [((.ofNat 440), []), ((.ofNat 0), []), ((.ofNat 17), [])]), (9, [1], [((.ofNat 200), []), ((.ofNat 0), []), ((.ofNat 17), [])]), (13, [], [((.ofNat 0), []), ((.ofNat 0), []), ((.ofNat 17), []), ((.ofNat 0), []), ((.ofNat 17), []), ((.ofNat 0), []), ((.ofNat 17), []), ((.ofNat 0), []), ((.ofNat 17), [])])]), symsL 0 0, some ((.ofNat 13), []), 14, 5794)
noncomputable def c143_0_p2 : PE := (161, [0, 1], (0, [], [], [qvR 0, qvK (.ofNat 2)], [zc14, qiC 0 [qgN 0 0 0, .inl ((.ofNat 3), []), qgN 7 0 0, .inl ((.ofNat 3), []), qgN 0 0 0, .inl ((.ofNat 5), []), qgN 7 0 0, .inl ((.ofNat 100), []), qgN 2 0 0, .inl ((.negSucc 0), []), qgN 21 0 0, .inl ((.ofNat 1), []), qgN 39 0 0, .inl ((.ofNat 1), []), qgN 827 0 0], qiC 0 [qgN 1820 0 0], qiC 3 [qgN 2 0 0], qiC 0 [qgN 70 0 0], qiC 0 [qgN 70 0 0], qiC 0 [qgN 70 0 0], qjC 1 1000000070, qjC 1 1000000008, qiC 0 [qgN 910 0 0], qiC 0 [qgN 910 0 0], qiC 0 [qgN 20 0 0], qiC 0 [qgN 20 0 0], qiC 0 [qgN 910 0 0], qjC 1 1000000004], [(2, [1], []), (1, [1], []), (9, [1], [((.ofNat 440), []), ((.ofNat 0), []), ((.ofNat 17), [])]), (9, [1], [((.ofNat 200), []), ((.ofNat 0), []), ((.ofNat 17), [])]), (13, [], [((.ofNat 0), []), ((.ofNat 0), []), ((.ofNat 17), []), ((.ofNat 0), []), ((.ofNat 17), []), ((.ofNat 0), []), ((.ofNat 17), []), ((.ofNat 0), []), ((.ofNat 17), [])])]), symsL 0 0, some ((.ofNat 12), []), 14, 5794)
noncomputable def c143_0_p3 : PE := (161, [0, 1], (0, [], [], [qvR 0, qvK (.ofNat 3)], [zc14, qiC 0 [qgN 0 0 0, .inl ((.ofNat 3), []), qgN 7 0 0, .inl ((.ofNat 3), []), qgN 0 0 0, .inl ((.ofNat 5), []), qgN 7 0 0, .inl ((.ofNat 100), []), qgN 2 0 0, .inl ((.negSucc 0), []), qgN 21 0 0, .inl ((.ofNat 1), []), qgN 39 0 0, .inl ((.ofNat 1), []), qgN 39 0 0, .inl ((.ofNat 1), []), qgN 787 0 0], qiC 0 [qgN 1820 0 0], qiC 3 [qgN 2 0 0], qiC 0 [qgN 70 0 0], qiC 0 [qgN 70 0 0], qiC 0 [qgN 70 0 0], qjC 1 1000000070, qjC 1 1000000008, qiC 0 [qgN 910 0 0], qiC 0 [qgN 910 0 0], qiC 0 [qgN 20 0 0], qiC 0 [qgN 20 0 0], qiC 0 [qgN 910 0 0], qjC 1 1000000004], [(2, [1], []), (1, [1], []), (9, [1], [((.ofNat 440), []), ((.ofNat 0), []), ((.ofNat 17), [])]), (9, [1], [((.ofNat 200), []), ((.ofNat 0), []), ((.ofNat 17), [])]), (13, [], [((.ofNat 0), []), ((.ofNat 0), []), ((.ofNat 17), []), ((.ofNat 0), []), ((.ofNat 17), []), ((.ofNat 0), []), ((.ofNat 17), []), ((.ofNat 0), []), ((.ofNat 17), [])])]), symsL 0 0, some ((.ofNat 11), []), 14, 5794)
noncomputable def c143_0_p4 : PE := (161, [0, 1], (0, [], [], [qvR 0, qvK (.ofNat 4)], zh16, [(2, [1], []), (1, [1], []), (9, [1], [((.ofNat 440), []), ((.ofNat 0), []), ((.ofNat 17), [])]), (9, [1], [((.ofNat 200), []), ((.ofNat 0), []), ((.ofNat 17), [])]), (13, [], [((.ofNat 0), []), ((.ofNat 0), []), ((.ofNat 17), []), ((.ofNat 0), []), ((.ofNat 17), []), ((.ofNat 0), []), ((.ofNat 17), []), ((.ofNat 0), []), ((.ofNat 17), [])])]), symsL 0 0, some ((.ofNat 10), []), 14, 5794)
noncomputable def c143_0_p5 : PE := (190, [0, 1], (0, [], [], [qvR 0, qvK (.ofNat 0)], zh16, [(2, [1], []), (1, [1], []), (9, [1], [((.ofNat 440), []), ((.ofNat 0), []), ((.ofNat 17), [])]), (9, [1], [((.ofNat 200), []), ((.ofNat 0), []), ((.ofNat 17), [])]), (13, [], [((.ofNat 0), []), ((.ofNat 0), []), ((.ofNat 17), []), ((.ofNat 0), []), ((.ofNat 17), []), ((.ofNat 0), []), ((.ofNat 17), []), ((.ofNat 0), []), ((.ofNat 17), [])])]), symsL 0 0, some ((.ofNat 9), []), 14, 5794)
noncomputable def c143_0_p6 : PE := (190, [0, 1], (0, [], [], [qvR 0, qvK (.ofNat 1)], [zc14, qiC 0 [qgN 0 0 0, .inl ((.ofNat 3), []), qgN 7 0 0, .inl ((.ofNat 3), []), qgN 0 0 0, .inl ((.ofNat 5), []), qgN 7 0 0, .inl ((.ofNat 100), []), qgN 2 0 0, .inl ((.negSucc 0), []), qgN 21 0 0, .inl ((.ofNat 1), []), qgN 39 0 0, .inl ((.ofNat 1), []), qgN 39 0 0, .inl ((.ofNat 1), []), qgN 39 0 0, .inl ((.ofNat 1), []), qgN 621 0 0, .inl ((.negSucc 99), []), qgN 0 0 0, .inl ((.ofNat 100), []), qgN 124 0 0], qiC 0 [qgN 1820 0 0], qiC 3 [qgN 2 0 0], qiC 0 [qgN 70 0 0], qiC 0 [qgN 70 0 0], qiC 0 [qgN 70 0 0], qjC 1 1000000070, qjC 1 1000000008, qiC 0 [qgN 910 0 0], qiC 0 [qgN 910 0 0], qiC 0 [qgN 20 0 0], qiC 0 [qgN 20 0 0], qiC 0 [qgN 910 0 0], qjC 1 1000000004], [(2, [1], []), (1, [1], []), (9, [1], [((.ofNat 440), []), ((.ofNat 0), []), ((.ofNat 17), [])]), (9, [1], [((.ofNat 200), []), ((.ofNat 0), []), ((.ofNat 17), [])]), (13, [], [((.ofNat 0), []), ((.ofNat 0), []), ((.ofNat 17), []), ((.ofNat 0), []), ((.ofNat 17), []), ((.ofNat 0), []), ((.ofNat 17), []), ((.ofNat 0), []), ((.ofNat 17), [])])]), symsL 0 0, some ((.ofNat 8), []), 14, 5794)
noncomputable def c143_0_p7 : PE := (190, [0, 1], (0, [], [], [qvR 0, qvK (.ofNat 2)], [zc14, qiC 0 [qgN 0 0 0, .inl ((.ofNat 3), []), qgN 7 0 0, .inl ((.ofNat 3), []), qgN 0 0 0, .inl ((.ofNat 5), []), qgN 7 0 0, .inl ((.ofNat 100), []), qgN 2 0 0, .inl ((.negSucc 0), []), qgN 21 0 0, .inl ((.ofNat 1), []), qgN 39 0 0, .inl ((.ofNat 1), []), qgN 39 0 0, .inl ((.ofNat 1), []), qgN 39 0 0, .inl ((.ofNat 1), []), qgN 621 0 0, .inl ((.negSucc 99), []), qgN 0 0 0, .inl ((.ofNat 100), []), qgN 0 0 0, .inl ((.negSucc 99), []), qgN 0 0 0, .inl ((.ofNat 100), []), qgN 122 0 0], qiC 0 [qgN 1820 0 0], qiC 3 [qgN 2 0 0], qiC 0 [qgN 70 0 0], qiC 0 [qgN 70 0 0], qiC 0 [qgN 70 0 0], qjC 1 1000000070, qjC 1 1000000008, qiC 0 [qgN 910 0 0], qiC 0 [qgN 910 0 0], qiC 0 [qgN 20 0 0], qiC 0 [qgN 20 0 0], qiC 0 [qgN 910 0 0], qjC 1 1000000004], [(2, [1], []), (1, [1], []), (9, [1], [((.ofNat 440), []), ((.ofNat 0), []), ((.ofNat 17), [])]), (9, [1], [((.ofNat 200), []), ((.ofNat 0), []), ((.ofNat 17), [])]), (13, [], [((.ofNat 0), []), ((.ofNat 0), []), ((.ofNat 17), []), ((.ofNat 0), []), ((.ofNat 17), []), ((.ofNat 0), []), ((.ofNat 17), []), ((.ofNat 0), []), ((.ofNat 17), [])])]), symsL 0 0, some ((.ofNat 7), []), 14, 5794)
noncomputable def c143_0_p8 : PE := (190, [0, 1], (0, [], [], [qvR 0, qvK (.ofNat 3)], [zc14, qiC 0 [qgN 0 0 0, .inl ((.ofNat 3), []), qgN 7 0 0, .inl ((.ofNat 3), []), qgN 0 0 0, .inl ((.ofNat 5), []), qgN 7 0 0, .inl ((.ofNat 100), []), qgN 2 0 0, .inl ((.negSucc 0), []), qgN 21 0 0, .inl ((.ofNat 1), []), qgN 39 0 0, .inl ((.ofNat 1), []), qgN 39 0 0, .inl ((.ofNat 1), []), qgN 39 0 0, .inl ((.ofNat 1), []), qgN 621 0 0, .inl ((.negSucc 99), []), qgN 0 0 0, .inl ((.ofNat 100), []), qgN 0 0 0, .inl ((.negSucc 99), []), qgN 0 0 0, .inl ((.ofNat 100), []), qgN 0 0 0, .inl ((.negSucc 99), []), qgN 0 0 0, .inl ((.ofNat 100), []), qgN 120 0 0], qiC 0 [qgN 1820 0 0], qiC 3 [qgN 2 0 0], qiC 0 [qgN 70 0 0], qiC 0 [qgN 70 0 0], qiC 0 [qgN 70 0 0], qjC 1 1000000070, qjC 1 1000000008, qiC 0 [qgN 910 0 0], qiC 0 [qgN 910 0 0], qiC 0 [qgN 20 0 0], qiC 0 [qgN 20 0 0], qiC 0 [qgN 910 0 0], qjC 1 1000000004], [(2, [1], []), (1, [1], []), (9, [1], [((.ofNat 440), []), ((.ofNat 0), []), ((.ofNat 17), [])]), (9, [1], [((.ofNat 200), []), ((.ofNat 0), []), ((.ofNat 17), [])]), (13, [], [((.ofNat 0), []), ((.ofNat 0), []), ((.ofNat 17), []), ((.ofNat 0), []), ((.ofNat 17), []), ((.ofNat 0), []), ((.ofNat 17), []), ((.ofNat 0), []), ((.ofNat 17), [])])]), symsL 0 0, some ((.ofNat 6), []), 14, 5794)
noncomputable def c143_0_p9 : PE := (190, [0, 1], (0, [], [], [qvR 0, qvK (.ofNat 4)], zh15, [(2, [1], []), (1, [1], []), (9, [1], [((.ofNat 440), []), ((.ofNat 0), []), ((.ofNat 17), [])]), (9, [1], [((.ofNat 200), []), ((.ofNat 0), []), ((.ofNat 17), [])]), (13, [], [((.ofNat 0), []), ((.ofNat 0), []), ((.ofNat 17), []), ((.ofNat 0), []), ((.ofNat 17), []), ((.ofNat 0), []), ((.ofNat 17), []), ((.ofNat 0), []), ((.ofNat 17), [])])]), symsL 0 0, some ((.ofNat 5), []), 14, 5794)
noncomputable def c143_0_pts : List PE := [c143_0_p0, c143_0_p1, c143_0_p2, c143_0_p3, c143_0_p4, c143_0_p5, c143_0_p6, c143_0_p7, c143_0_p8, c143_0_p9]
set_option maxRecDepth 100000 in
theorem c143_0_k : enCtF c143_0 c143_0_e (pkP (c143_0_pts ++ []) [0]) (none) ((hOr (hNew 13 0 1) (hOr (atPc 14 (fHarmN 0)) (hOr (atPc 22 (fZ9 0 200)) (atPc 23 (fZ9 0 440))))), noM, 1569275436769673465620753192209286269458154900427873714176, 12607488, 0) 3000 = true := by decide +kernel
set_option maxRecDepth 100000 in
theorem c143_0_k0 : ptCtF c143_0 c143_0_e (pkP (c143_0_pts ++ []) [1]) ((hOr (hNew 13 0 1) (hOr (atPc 14 (fHarmN 0)) (hOr (atPc 22 (fZ9 0 200)) (atPc 23 (fZ9 0 440))))), noM, 1569275436769673465620753192209286269458154900427873714176, 12607488, 0) 3000 c143_0_p0 = true := by decide +kernel
set_option maxRecDepth 100000 in
theorem c143_0_k1 : ptCtF c143_0 c143_0_e (pkP (c143_0_pts ++ []) [2]) ((hOr (hNew 13 0 1) (hOr (atPc 14 (fHarmN 0)) (hOr (atPc 22 (fZ9 0 200)) (atPc 23 (fZ9 0 440))))), noM, 1569275436769673465620753192209286269458154900427873714176, 12607488, 0) 3000 c143_0_p1 = true := by decide +kernel
set_option maxRecDepth 100000 in
theorem c143_0_k2 : ptCtF c143_0 c143_0_e (pkP (c143_0_pts ++ []) [3]) ((hOr (hNew 13 0 1) (hOr (atPc 14 (fHarmN 0)) (hOr (atPc 22 (fZ9 0 200)) (atPc 23 (fZ9 0 440))))), noM, 1569275436769673465620753192209286269458154900427873714176, 12607488, 0) 3000 c143_0_p2 = true := by decide +kernel
set_option maxRecDepth 100000 in
theorem c143_0_k3 : ptCtF c143_0 c143_0_e (pkP (c143_0_pts ++ []) [4]) ((hOr (hNew 13 0 1) (hOr (atPc 14 (fHarmN 0)) (hOr (atPc 22 (fZ9 0 200)) (atPc 23 (fZ9 0 440))))), noM, 1569275436769673465620753192209286269458154900427873714176, 12607488, 0) 3000 c143_0_p3 = true := by decide +kernel
set_option maxRecDepth 100000 in
theorem c143_0_k4 : ptCtF c143_0 c143_0_e (pkP (c143_0_pts ++ []) [5]) ((hOr (hNew 13 0 1) (hOr (atPc 14 (fHarmN 0)) (hOr (atPc 22 (fZ9 0 200)) (atPc 23 (fZ9 0 440))))), noM, 1569275436769673465620753192209286269458154900427873714176, 12607488, 0) 3000 c143_0_p4 = true := by decide +kernel
set_option maxRecDepth 100000 in
theorem c143_0_k5 : ptCtF c143_0 c143_0_e (pkP (c143_0_pts ++ []) [6]) ((hOr (hNew 13 0 1) (hOr (atPc 14 (fHarmN 0)) (hOr (atPc 22 (fZ9 0 200)) (atPc 23 (fZ9 0 440))))), noM, 1569275436769673465620753192209286269458154900427873714176, 12607488, 0) 3000 c143_0_p5 = true := by decide +kernel
set_option maxRecDepth 100000 in
theorem c143_0_k6 : ptCtF c143_0 c143_0_e (pkP (c143_0_pts ++ []) [7]) ((hOr (hNew 13 0 1) (hOr (atPc 14 (fHarmN 0)) (hOr (atPc 22 (fZ9 0 200)) (atPc 23 (fZ9 0 440))))), noM, 1569275436769673465620753192209286269458154900427873714176, 12607488, 0) 3000 c143_0_p6 = true := by decide +kernel
set_option maxRecDepth 100000 in
theorem c143_0_k7 : ptCtF c143_0 c143_0_e (pkP (c143_0_pts ++ []) [8]) ((hOr (hNew 13 0 1) (hOr (atPc 14 (fHarmN 0)) (hOr (atPc 22 (fZ9 0 200)) (atPc 23 (fZ9 0 440))))), noM, 1569275436769673465620753192209286269458154900427873714176, 12607488, 0) 3000 c143_0_p7 = true := by decide +kernel
set_option maxRecDepth 100000 in
theorem c143_0_k8 : ptCtF c143_0 c143_0_e (pkP (c143_0_pts ++ []) [9]) ((hOr (hNew 13 0 1) (hOr (atPc 14 (fHarmN 0)) (hOr (atPc 22 (fZ9 0 200)) (atPc 23 (fZ9 0 440))))), noM, 1569275436769673465620753192209286269458154900427873714176, 12607488, 0) 3000 c143_0_p8 = true := by decide +kernel
set_option maxRecDepth 100000 in
theorem c143_0_k9 : ptCtF c143_0 c143_0_e (pkP (c143_0_pts ++ []) []) ((hOr (hNew 13 0 1) (hOr (atPc 14 (fHarmN 0)) (hOr (atPc 22 (fZ9 0 200)) (atPc 23 (fZ9 0 440))))), noM, 1569275436769673465620753192209286269458154900427873714176, 12607488, 0) 3000 c143_0_p9 = true := by decide +kernel
set_option maxRecDepth 100000 in
theorem c143_0_v : ValidC PPk c143_0 := ct_ok fpk ⟨(hOr_ok (hNew_ok 13 0 1) (hOr_ok (atPc_ok (fHarmN_ok 0)) (hOr_ok (atPc_ok (fZ9_ok 0 200)) (atPc_ok (fZ9_ok 0 440))))), noM_ok⟩ (d := 0) (ext := []) (pts := c143_0_pts) (env := c143_0_e) rfl (fun _ h => (by cases h)) ext_nil (fun q h => (by cases h)) (enF c143_0_k) (List.forall_mem_cons.mpr ⟨⟨_, ptF c143_0_k0⟩, List.forall_mem_cons.mpr ⟨⟨_, ptF c143_0_k1⟩, List.forall_mem_cons.mpr ⟨⟨_, ptF c143_0_k2⟩, List.forall_mem_cons.mpr ⟨⟨_, ptF c143_0_k3⟩, List.forall_mem_cons.mpr ⟨⟨_, ptF c143_0_k4⟩, List.forall_mem_cons.mpr ⟨⟨_, ptF c143_0_k5⟩, List.forall_mem_cons.mpr ⟨⟨_, ptF c143_0_k6⟩, List.forall_mem_cons.mpr ⟨⟨_, ptF c143_0_k7⟩, List.forall_mem_cons.mpr ⟨⟨_, ptF c143_0_k8⟩, List.forall_mem_cons.mpr ⟨⟨_, ptF c143_0_k9⟩, fun _ h => (by cases h)⟩⟩⟩⟩⟩⟩⟩⟩⟩⟩)

noncomputable def c12_0 : Ct := (12, 1, (3, [qtA 0, qtA 1, qtA 2], [], [qvS 0, qvS 1, qvS 2], [], []),
  [((3, [(0, (.negSucc 2147483647), (.ofNat 2147483646)), (1, (.negSucc 2147483646), (.ofNat 2147483647))], [((.ofNat 1), [(0, (.ofNat 1)), (1, (.negSucc 0))])], [qvK (.ofNat 0)], [], []), 0, 0),
   ((3, [(0, (.negSucc 2147483646), (.ofNat 2147483647)), (2, (.negSucc 2147483647), (.ofNat 2147483646))], [((.ofNat 1), [(0, (.negSucc 0)), (2, (.ofNat 1))]), ((.ofNat 0), [(0, (.negSucc 0)), (1, (.ofNat 1))])], [qvK (.ofNat 0)], [], []), 0, 0),
   ((3, [], [((.ofNat 0), [(0, (.ofNat 1)), (2, (.negSucc 0))]), ((.ofNat 0), [(0, (.negSucc 0)), (1, (.ofNat 1))])], [qvK (.ofNat 1)], [], []), 0, 0)])
noncomputable def c12_0_e : List Ct := []
noncomputable def c12_0_pts : List PE := []
set_option maxRecDepth 100000 in
theorem c12_0_k : enCtF c12_0 c12_0_e (pkP (c12_0_pts ++ []) []) (none) noH 3000 = true := by decide +kernel
set_option maxRecDepth 100000 in
theorem c12_0_v : ValidC PPk c12_0 := ct_ok fpk noH_ok (d := 0) (ext := []) (pts := c12_0_pts) (env := c12_0_e) rfl (fun _ h => (by cases h)) ext_nil (fun q h => (by cases h)) (enF c12_0_k) (fun _ h => (by cases h))

noncomputable def zc17 : AC := qoC 8 [qvR 1, qvS 0, qvS 1, qvS 2, qvS 3]
noncomputable def zh18 : AH := [zc17, qiC 0 [qgA 12]]
noncomputable def c14_0 : Ct := (14, 1, (4, [qtA 0, qtA 1, qtA 2, qtA 3], [], [qvR 0], zh18, []),
  [((4, [], [], [], [zc3, qiC 0 [qgA 12]], []), 0, 0)])
noncomputable def c14_0_e : List Ct := []
noncomputable def c14_0_p0 : PE := (2, [0, 1], (5, [qtA 0, qtA 1, qtA 2, qtA 3, qtN 4 0 12], [], [qvR 0, qvS 4], zh18, []), symsL 4 0, some ((.ofNat 25), [(4, (.negSucc 0))]), 0, 0)
noncomputable def c14_0_pts : List PE := [c14_0_p0]
set_option maxRecDepth 100000 in
theorem c14_0_k : enCtF c14_0 c14_0_e (pkP (c14_0_pts ++ []) [0]) (none) (noF, noM, 4, 0, 4) 3000 = true := by decide +kernel
set_option maxRecDepth 100000 in
theorem c14_0_k0 : ptCtF c14_0 c14_0_e (pkP (c14_0_pts ++ []) [0]) (noF, noM, 4, 0, 4) 3000 c14_0_p0 = true := by decide +kernel
set_option maxRecDepth 100000 in
theorem c14_0_v : ValidC PPk c14_0 := ct_ok fpk ⟨noF_ok, noM_ok⟩ (d := 0) (ext := []) (pts := c14_0_pts) (env := c14_0_e) rfl (fun _ h => (by cases h)) ext_nil (fun q h => (by cases h)) (enF c14_0_k) (List.forall_mem_cons.mpr ⟨⟨_, ptF c14_0_k0⟩, fun _ h => (by cases h)⟩)

noncomputable def zt0 (r : TbL) : TbL := qtA 0 :: qtA 1 :: qtA 2 :: qtA 3 :: qtA 4 :: qtA 5 :: qtN 6 0 3 :: qtA 7 :: qtA 8 :: qtA 9 :: qtA 10 :: qtN 11 0 1 :: qtA 12 :: qtA 13 :: qtA 14 :: qtA 15 :: qtA 16 :: qtA 17 :: qtA 18 :: qtA 19 :: qtA 20 :: qtA 21 :: qtA 22 :: qtA 23 :: qtA 24 :: qtA 25 :: qtA 26 :: qtA 27 :: qtA 28 :: qtA 29 :: r
noncomputable def zc19 : AC := qoC 7 [qvR 1, qvS 0, qvR 10, qvR 14, qvR 15, qvS 1, qvS 2, qvS 3, qvS 4, qvS 5, qvS 6, qvS 7, qvS 8, qvS 9, qvS 10, qvS 11, qvS 12]
noncomputable def zc20 : AC := qrC 5 [some 2, some 4, some 6, some 8]
noncomputable def zc21 : AC := qoC 8 [qvR 3, qvS 13, qvS 14, qvS 15, qvS 16]
noncomputable def zc22 : AC := qoC 8 [qvR 5, qvS 17, qvS 18, qvS 19, qvS 20]
noncomputable def zc23 : AC := qoC 8 [qvR 7, qvS 21, qvS 22, qvS 23, qvS 24]
noncomputable def zc24 : AC := qoC 8 [qvR 9, qvS 25, qvS 26, qvS 27, qvS 28]
noncomputable def zc25 : AC := qoC 9 [qvR 11, qvR 12, qvR 13, qvS 29]
noncomputable def zh26 : AH := [zc19, zc20, zc21, qiC 0 [qgA 12], zc22, qiC 0 [qgA 12], zc23, qiC 0 [qgA 12], zc24, qiC 0 [qgA 12], zc25, qkC 100 30, qkC 100 31, qkC 100 32, qkC 100 33, qkC 100 34]
noncomputable def zc27 : AC := qoC 8 [qvR 3, qvS 37, qvS 38, qvS 39, qvS 40]
noncomputable def zc28 : AC := qoC 8 [qvR 5, qvS 41, qvS 42, qvS 43, qvS 44]
noncomputable def zc29 : AC := qoC 8 [qvR 7, qvS 45, qvS 46, qvS 47, qvS 48]
noncomputable def zc30 : AC := qoC 8 [qvR 9, qvS 49, qvS 50, qvS 51, qvS 52]
noncomputable def c13_0 : Ct := (13, 2, (36, (zt0 [qtN 35 1 4]), [], [qvR 0, qvS 35], zh26, []),
  [((53, [qtN 36 1 15, qtA 37, qtA 38, qtA 39, qtA 40, qtA 41, qtA 42, qtA 43, qtA 44, qtA 45, qtA 46, qtA 47, qtA 48, qtA 49, qtA 50, qtA 51, qtA 52], [], [], [qoC 7 [qvR 1, qvS 36, qvR 10, qvR 14, qvR 15, qvS 1, qvS 2, qvS 3, qvS 4, qvS 5, qvS 6, qvS 7, qvS 8, qvS 9, qvS 10, qvS 11, qvS 12], zc20, zc27, qiC 0 [qgA 12], zc28, qiC 0 [qgA 12], zc29, qiC 0 [qgA 12], zc30, qiC 0 [qgA 12], zc25, qkC 100 30, qkC 100 31, qkC 100 32, qkC 100 33, qkC 100 34], []), 0, 0)])
noncomputable def c13_0_e : List Ct := [c14_0]
noncomputable def c13_0_p0 : PE := (2, [0, 1, 2], (53, (zt0 [qtN 35 1 4, qtN 36 0 4, qtA 37, qtA 38, qtA 39, qtA 40, qtA 41, qtA 42, qtA 43, qtA 44, qtA 45, qtA 46, qtA 47, qtA 48, qtA 49, qtA 50, qtA 51, qtA 52]), [], [qvR 0, qvS 35, qvS 36], [zc19, zc20, zc27, qiC 0 [qgA 12], zc28, qiC 0 [qgA 12], zc29, qiC 0 [qgA 12], zc30, qiC 0 [qgA 12], zc25, qkC 100 30, qkC 100 31, qkC 100 32, qkC 100 33, qkC 100 34], []), symsL 36 0, some ((.ofNat 9), [(36, (.negSucc 0))]), 0, 0)
noncomputable def c13_0_pts : List PE := [c13_0_p0]
set_option maxRecDepth 100000 in
theorem c13_0_k : enCtF c13_0 c13_0_e (pkP (c13_0_pts ++ []) [0]) (none) (noF, noM, 4, 0, 36) 3000 = true := by decide +kernel
set_option maxRecDepth 100000 in
theorem c13_0_k0 : ptCtF c13_0 c13_0_e (pkP (c13_0_pts ++ []) [0]) (noF, noM, 4, 0, 36) 3000 c13_0_p0 = true := by decide +kernel
set_option maxRecDepth 100000 in
theorem c13_0_v : ValidC PPk c13_0 := ct_ok fpk ⟨noF_ok, noM_ok⟩ (d := 1) (ext := []) (pts := c13_0_pts) (env := c13_0_e) rfl (List.forall_mem_cons.mpr ⟨⟨c14_0_v, Nat.le_of_ble_eq_true rfl⟩, fun _ h => (by cases h)⟩) ext_nil (fun q h => (by cases h)) (enF c13_0_k) (List.forall_mem_cons.mpr ⟨⟨_, ptF c13_0_k0⟩, fun _ h => (by cases h)⟩)

noncomputable def zt1 (r : TbL) : TbL := qtN 0 1 4 :: qtA 1 :: qtA 2 :: qtN 3 1 1000 :: qtN 4 0 50 :: qtN 5 0 10 :: qtN 6 0 60 :: qtN 11 0 60 :: qtN 16 0 8 :: qtN 24 0 6 :: qtN 31 0 60 :: qtA 32 :: qtN 33 0 60 :: qtN 34 0 60 :: qtN 37 0 8 :: qtA 46 :: qtA 47 :: qtA 48 :: qtA 49 :: qtA 50 :: qtA 51 :: qtN 52 0 3 :: qtA 53 :: qtA 54 :: qtA 55 :: qtA 56 :: qtN 57 0 1 :: qtA 58 :: qtA 59 :: qtA 60 :: qtA 61 :: qtA 62 :: qtA 63 :: qtA 64 :: qtA 65 :: qtA 66 :: qtA 67 :: qtA 68 :: qtA 69 :: qtA 70 :: qtA 71 :: qtA 72 :: qtA 73 :: qtA 74 :: qtA 75 :: r
noncomputable def zc31 : AC := qoC 1 [qvS 0, qvR 2, qvR 13, qvR 19, qvR 20, qvS 1, qvS 2, qvR 21, qvS 3, qvS 4, qvR 26, qvR 27, qvR 28, qvR 32, qvS 5, qvR 38, qvR 39, qvR 40]
noncomputable def zc32 : AC := qoC 2 [qvS 6, qvR 4, qvR 5, qvR 6, qvR 7]
noncomputable def zc33 : AC := qoC 2 [qvS 11, qvR 9, qvR 10, qvR 11, qvR 12]
noncomputable def zc34 : AC := qoC 3 [qvR 14, qvR 15, qvS 16, qvR 16, qvR 17, qvR 18]
noncomputable def zc35 : AC := qoC 4 [qvS 24, qvR 22, qvR 23, qvR 24, qvR 25]
noncomputable def zc36 : AC := qoC 5 [qvS 31, qvR 29, qvS 32, qvS 33, qvS 34, qvR 30, qvR 31]
noncomputable def zc37 : AC := qoC 6 [qvS 37, qvR 33, qvR 34, qvR 35, qvR 36, qvR 37]
noncomputable def zc38 : AC := qoC 7 [qvR 42, qvS 46, qvR 51, qvR 55, qvR 56, qvS 47, qvS 48, qvS 49, qvS 50, qvS 51, qvS 52, qvS 53, qvS 54, qvS 55, qvS 56, qvS 57, qvS 58]
noncomputable def zc39 : AC := qrC 5 [some 43, some 45, some 47, some 49]
noncomputable def zc40 : AC := qoC 8 [qvR 44, qvS 59, qvS 60, qvS 61, qvS 62]
noncomputable def zc41 : AC := qoC 8 [qvR 46, qvS 63, qvS 64, qvS 65, qvS 66]
noncomputable def zc42 : AC := qoC 8 [qvR 48, qvS 67, qvS 68, qvS 69, qvS 70]
noncomputable def zc43 : AC := qoC 8 [qvR 50, qvS 71, qvS 72, qvS 73, qvS 74]
noncomputable def zc44 : AC := qoC 9 [qvR 52, qvR 53, qvR 54, qvS 75]
noncomputable def zh45 : AH := [zc12, zc31, qrC 4 [some 3, some 8], zc32, qkC 100 7, qkC 100 8, qkC 100 9, qkC 100 10, zc33, qkC 100 12, qkC 100 13, qkC 100 14, qkC 100 15, zc34, qkC 100 17, qkC 100 18, qkC 100 19, qkC 100 20, qkC 100 21, qkC 100 22, qkC 100 23, zc35, qkC 100 25, qkC 100 26, qkC 100 27, qkC 100 28, qkC 100 29, qkC 100 30, zc36, qkC 102 35, qkC 100 36, qjC 1 60, zc37, qkC 100 38, qkC 100 39, qkC 100 40, qkC 100 41, qkC 100 42, qkC 100 43, qkC 100 44, qkC 100 45, zc38, zc39, zc40, qiC 0 [qgA 12], zc41, qiC 0 [qgA 12], zc42, qiC 0 [qgA 12], zc43, qiC 0 [qgA 12], zc44, qkC 100 76, qkC 100 77, qkC 100 78, qkC 100 79, qkC 100 80, zc13, qjC 1 6, qjC 1 4, qrC 6 [none, none], qrC 7 [none, none]]
noncomputable def c11_0 : Ct := (11, 3, (82, (zt1 [qtA 81]), [], [qvR 0, qvS 81], zh45, [(0, [9, 10, 11, 12], []), (0, [4, 5, 6, 7], [])]),
  [((101, [(82, (.negSucc 2), (.ofNat 1)), qtN 83 1 4, qtA 84, qtA 85, qtA 86, qtA 87, qtA 88, qtA 89, qtA 90, qtA 91, qtA 92, qtA 93, qtA 94, qtA 95, qtA 96, qtA 97, qtA 98, qtA 99, qtA 100], [], [qvS 82], [zc12, qoC 1 [qvS 83, qvR 2, qvR 13, qvR 19, qvR 20, qvS 1, qvS 2, qvR 21, qvS 3, qvS 4, qvR 26, qvR 27, qvR 28, qvR 32, qvS 5, qvR 38, qvR 39, qvR 40], qrC 4 [some 3, some 8], zc32, qkC 100 7, qkC 100 8, qkC 100 9, qkC 100 10, zc33, qkC 100 12, qkC 100 13, qkC 100 14, qkC 100 15, zc34, qkC 100 17, qkC 100 18, qkC 100 19, qkC 100 20, qkC 100 21, qkC 100 22, qkC 100 23, zc35, qkC 100 25, qkC 100 26, qkC 100 27, qkC 100 28, qkC 100 29, qkC 100 30, zc36, qkC 102 35, qkC 100 36, qjC 1 60, zc37, qkC 100 38, qkC 100 39, qkC 100 40, qkC 100 41, qkC 100 42, qkC 100 43, qkC 100 44, qkC 100 45, qoC 7 [qvR 42, qvS 84, qvR 51, qvR 55, qvR 56, qvS 47, qvS 48, qvS 49, qvS 50, qvS 51, qvS 52, qvS 53, qvS 54, qvS 55, qvS 56, qvS 57, qvS 58], zc39, qoC 8 [qvR 44, qvS 85, qvS 86, qvS 87, qvS 88], qiC 0 [qgA 12], qoC 8 [qvR 46, qvS 89, qvS 90, qvS 91, qvS 92], qiC 0 [qgA 12], qoC 8 [qvR 48, qvS 93, qvS 94, qvS 95, qvS 96], qiC 0 [qgA 12], qoC 8 [qvR 50, qvS 97, qvS 98, qvS 99, qvS 100], qiC 0 [qgA 12], zc44, qkC 100 76, qkC 100 77, qkC 100 78, qkC 100 79, qkC 100 80, zc13, qjC 1 6, qjC 1 4, qrC 6 [none, none], qrC 7 [none, none]], [(0, [9, 10, 11, 12], []), (0, [4, 5, 6, 7], [])]), 0, 0)])
noncomputable def c11_0_e : List Ct := [c12_0, c13_0]
noncomputable def c11_0_pts : List PE := []
set_option maxRecDepth 100000 in
theorem c11_0_k : enCtF c11_0 c11_0_e (pkP (c11_0_pts ++ []) []) (none) noH 3000 = true := by decide +kernel
set_option maxRecDepth 100000 in
theorem c11_0_v : ValidC PPk c11_0 := ct_ok fpk noH_ok (d := 2) (ext := []) (pts := c11_0_pts) (env := c11_0_e) rfl (List.forall_mem_cons.mpr ⟨⟨c12_0_v, Nat.le_of_ble_eq_true rfl⟩, List.forall_mem_cons.mpr ⟨⟨c13_0_v, Nat.le_of_ble_eq_true rfl⟩, fun _ h => (by cases h)⟩⟩) ext_nil (fun q h => (by cases h)) (enF c11_0_k) (fun _ h => (by cases h))

noncomputable def c145_0 : Ct := (145, 1, (3, [qtA 0, qtA 1, qtA 2], [], [qvS 0, qvS 1, qvS 2], [], []),
  [((3, [(0, (.negSucc 2147483647), (.ofNat 2147483646)), (1, (.negSucc 2147483646), (.ofNat 2147483647))], [((.ofNat 1), [(0, (.ofNat 1)), (1, (.negSucc 0))])], [qvK (.ofNat 0)], [], []), 0, 0),
   ((3, [(0, (.negSucc 2147483646), (.ofNat 2147483647)), (2, (.negSucc 2147483647), (.ofNat 2147483646))], [((.ofNat 1), [(0, (.negSucc 0)), (2, (.ofNat 1))]), ((.ofNat 0), [(0, (.negSucc 0)), (1, (.ofNat 1))])], [qvK (.ofNat 0)], [], []), 0, 0),
   ((3, [], [((.ofNat 0), [(0, (.ofNat 1)), (2, (.negSucc 0))]), ((.ofNat 0), [(0, (.negSucc 0)), (1, (.ofNat 1))])], [qvK (.ofNat 1)], [], []), 0, 0)])
noncomputable def c145_0_e : List Ct := []
noncomputable def c145_0_pts : List PE := []
set_option maxRecDepth 100000 in
theorem c145_0_k : enCtF c145_0 c145_0_e (pkP (c145_0_pts ++ []) []) (none) noH 3000 = true := by decide +kernel
set_option maxRecDepth 100000 in
theorem c145_0_v : ValidC PPk c145_0 := ct_ok fpk noH_ok (d := 0) (ext := []) (pts := c145_0_pts) (env := c145_0_e) rfl (fun _ h => (by cases h)) ext_nil (fun q h => (by cases h)) (enF c145_0_k) (fun _ h => (by cases h))

noncomputable def zt2 (r : TbL) : TbL := qtN 0 0 69 :: qtN 1 0 69 :: qtN 2 0 8 :: qtA 3 :: qtA 4 :: qtA 5 :: qtA 6 :: qtA 7 :: qtA 8 :: qtA 9 :: qtN 10 1 4 :: qtN 11 0 60 :: qtN 12 0 8 :: qtN 13 0 6 :: qtN 14 0 8 :: qtN 15 0 60 :: qtN 16 0 60 :: qtN 17 0 10 :: qtA 18 :: qtA 19 :: qtN 20 0 1 :: qtN 21 0 1 :: qtN 22 0 1 :: qtN 23 0 1 :: r
noncomputable def zc46 : AC := qoC 12 [qvR 1, qvR 2, qvR 3, qvS 0, qvR 4, qvR 5, qvS 1, qvR 6, qvR 7, qvS 2, qvR 8, qvS 3, qvR 9, qvR 10, qvR 11, qvR 12, qvS 4, qvS 5, qvS 6, qvR 13, qvS 7, qvS 8, qvS 9, qvR 14]
noncomputable def zc47 : AC := qiC 0 [qgS 10, qgS 11, qgS 12, qgS 13, qgS 14, qgS 15, qgS 16, qgS 17, qgA 5, qgN 1 0 3, qgS 18, qgA 2, qgN 1 1 1000, qgN 1 0 50, qgA 1, qgS 19, qgA 21, qgS 20, qgA 39, qgS 21, qgA 39, qgS 22, qgA 39, qgS 23, qgA 517, qgN 12 0 60, qgN 1 0 5, qgN 1 0 39, qgN 1 0 40, qgN 1 0 5, qgN 1 0 39, qgN 1 0 40, qgN 1 0 5, qgN 1 0 39, qgN 1 0 40, qgN 1 0 5, qgN 1 0 39, qgN 1 0 40, qgN 1 0 5, qgN 1 0 39, qgN 1 0 40, qgN 1 0 5, qgN 1 0 39, qgN 1 0 40, qgN 1 0 5, qgN 1 0 39, qgN 1 0 40, qgN 1 0 5, qgN 1 0 39, qgN 1 0 40, qgA 76, qgA 2, qgN 1 0 5, qgA 2, qgA 2, qgN 1 0 5, qgA 2, qgA 2, qgN 1 0 5, qgA 2, qgA 2, qgN 1 0 5, qgA 2, qgA 2, qgN 1 0 5, qgA 2, qgA 2, qgN 1 0 5, qgA 2, qgA 2, qgN 1 0 5, qgA 2, qgA 2, qgN 1 0 5, qgA 2, qgN 60 0 127, qgA 18]
noncomputable def zh48 : AH := [zc46, zc47, qkC 100 24, qkC 103 25, qkC 100 26, qkC 100 27, qkC 100 28, qjC 1 70, qjC 1 8, qkC 100 29, qkC 100 30, qkC 100 31, qkC 100 32, qkC 100 33, qjC 1 4]
noncomputable def zt3 (r : TbL) : TbL := qtN 0 0 69 :: qtN 1 0 69 :: qtN 2 0 8 :: qtA 3 :: qtA 4 :: qtA 5 :: qtA 6 :: qtA 7 :: qtA 8 :: qtA 9 :: qtN 10 1 4 :: qtN 11 0 60 :: qtN 12 0 8 :: qtN 13 0 6 :: qtN 14 0 8 :: qtN 15 0 60 :: qtN 16 0 60 :: qtN 17 0 10 :: (18, (.negSucc 2147483647), (.ofNat 0)) :: qtA 19 :: qtN 20 0 1 :: qtN 21 0 1 :: qtN 22 0 1 :: qtN 23 0 1 :: r
noncomputable def zh49 : AH := [zc46, qiC 0 [qgS 34, qgS 11, qgS 12, qgS 13, qgS 14, qgS 15, qgS 16, qgS 17, qgA 5, qgN 1 0 3, qgS 18, qgA 2, qgN 1 1 1000, qgN 1 0 50, qgA 1, qgS 19, qgA 21, qgS 20, qgA 39, qgS 21, qgA 39, qgS 22, qgA 39, qgS 23, qgA 517, qgN 12 0 60, qgN 1 0 5, qgN 1 0 39, qgN 1 0 40, qgN 1 0 5, qgN 1 0 39, qgN 1 0 40, qgN 1 0 5, qgN 1 0 39, qgN 1 0 40, qgN 1 0 5, qgN 1 0 39, qgN 1 0 40, qgN 1 0 5, qgN 1 0 39, qgN 1 0 40, qgN 1 0 5, qgN 1 0 39, qgN 1 0 40, qgN 1 0 5, qgN 1 0 39, qgN 1 0 40, qgN 1 0 5, qgN 1 0 39, qgN 1 0 40, qgA 76, qgA 2, qgN 1 0 5, qgA 2, qgA 2, qgN 1 0 5, qgA 2, qgA 2, qgN 1 0 5, qgA 2, qgA 2, qgN 1 0 5, qgA 2, qgA 2, qgN 1 0 5, qgA 2, qgA 2, qgN 1 0 5, qgA 2, qgA 2, qgN 1 0 5, qgA 2, qgA 2, qgN 1 0 5, qgA 2, qgN 60 0 127, qgA 18], qkC 100 24, qkC 103 25, qkC 100 26, qkC 100 27, qkC 100 28, qjC 1 70, qjC 1 8, qkC 100 29, qkC 100 30, qkC 100 31, qkC 100 32, qkC 100 33, qjC 1 4]
noncomputable def zh50 : AH := [zc46, qiC 0 [qgS 34, qgS 11, qgS 12, qgS 13, qgS 14, qgS 15, qgS 16, qgS 17, qgA 5, qgN 1 0 3, qgS 18, qgA 2, qgN 1 1 1000, qgN 1 0 50, qgA 1, qgS 19, qgA 21, .inl ((.ofNat 1), []), qgA 39, qgS 21, qgA 39, qgS 22, qgA 39, qgS 23, qgA 517, qgN 12 0 60, qgN 1 0 5, qgN 1 0 39, qgN 1 0 40, qgN 1 0 5, qgN 1 0 39, qgN 1 0 40, qgN 1 0 5, qgN 1 0 39, qgN 1 0 40, qgN 1 0 5, qgN 1 0 39, qgN 1 0 40, qgN 1 0 5, qgN 1 0 39, qgN 1 0 40, qgN 1 0 5, qgN 1 0 39, qgN 1 0 40, qgN 1 0 5, qgN 1 0 39, qgN 1 0 40, qgN 1 0 5, qgN 1 0 39, qgN 1 0 40, qgA 76, qgA 2, qgN 1 0 5, qgA 2, qgA 2, qgN 1 0 5, qgA 2, qgA 2, qgN 1 0 5, qgA 2, qgA 2, qgN 1 0 5, qgA 2, qgA 2, qgN 1 0 5, qgA 2, qgA 2, qgN 1 0 5, qgA 2, qgA 2, qgN 1 0 5, qgA 2, qgA 2, qgN 1 0 5, qgA 2, qgN 60 0 127, qgA 18], qkC 100 24, qkC 103 25, qkC 100 26, qkC 100 27, qkC 100 28, qjC 1 70, qjC 1 8, qkC 100 29, qkC 100 30, qkC 100 31, qkC 100 32, qkC 100 33, qjC 1 4]
noncomputable def zh51 : AH := [zc46, qiC 0 [qgS 34, qgS 11, qgS 12, qgS 13, qgS 14, qgS 15, qgS 16, qgS 17, qgA 5, qgN 1 0 3, qgS 18, qgA 2, qgN 1 1 1000, qgN 1 0 50, qgA 1, qgS 19, qgA 21, .inl ((.ofNat 1), []), qgA 39, .inl ((.ofNat 1), []), qgA 39, qgS 22, qgA 39, qgS 23, qgA 517, qgN 12 0 60, qgN 1 0 5, qgN 1 0 39, qgN 1 0 40, qgN 1 0 5, qgN 1 0 39, qgN 1 0 40, qgN 1 0 5, qgN 1 0 39, qgN 1 0 40, qgN 1 0 5, qgN 1 0 39, qgN 1 0 40, qgN 1 0 5, qgN 1 0 39, qgN 1 0 40, qgN 1 0 5, qgN 1 0 39, qgN 1 0 40, qgN 1 0 5, qgN 1 0 39, qgN 1 0 40, qgN 1 0 5, qgN 1 0 39, qgN 1 0 40, qgA 76, qgA 2, qgN 1 0 5, qgA 2, qgA 2, qgN 1 0 5, qgA 2, qgA 2, qgN 1 0 5, qgA 2, qgA 2, qgN 1 0 5, qgA 2, qgA 2, qgN 1 0 5, qgA 2, qgA 2, qgN 1 0 5, qgA 2, qgA 2, qgN 1 0 5, qgA 2, qgA 2, qgN 1 0 5, qgA 2, qgN 60 0 127, qgA 18], qkC 100 24, qkC 103 25, qkC 100 26, qkC 100 27, qkC 100 28, qjC 1 70, qjC 1 8, qkC 100 29, qkC 100 30, qkC 100 31, qkC 100 32, qkC 100 33, qjC 1 4]
noncomputable def zh52 : AH := [zc46, qiC 0 [qgS 34, qgS 11, qgS 12, qgS 13, qgS 14, qgS 15, qgS 16, qgS 17, qgA 5, qgN 1 0 3, qgS 18, qgA 2, qgN 1 1 1000, qgN 1 0 50, qgA 1, qgS 19, qgA 21, .inl ((.ofNat 1), []), qgA 39, .inl ((.ofNat 1), []), qgA 39, .inl ((.ofNat 1), []), qgA 39, qgS 23, qgA 517, qgN 12 0 60, qgN 1 0 5, qgN 1 0 39, qgN 1 0 40, qgN 1 0 5, qgN 1 0 39, qgN 1 0 40, qgN 1 0 5, qgN 1 0 39, qgN 1 0 40, qgN 1 0 5, qgN 1 0 39, qgN 1 0 40, qgN 1 0 5, qgN 1 0 39, qgN 1 0 40, qgN 1 0 5, qgN 1 0 39, qgN 1 0 40, qgN 1 0 5, qgN 1 0 39, qgN 1 0 40, qgN 1 0 5, qgN 1 0 39, qgN 1 0 40, qgA 76, qgA 2, qgN 1 0 5, qgA 2, qgA 2, qgN 1 0 5, qgA 2, qgA 2, qgN 1 0 5, qgA 2, qgA 2, qgN 1 0 5, qgA 2, qgA 2, qgN 1 0 5, qgA 2, qgA 2, qgN 1 0 5, qgA 2, qgA 2, qgN 1 0 5, qgA 2, qgA 2, qgN 1 0 5, qgA 2, qgN 60 0 127, qgA 18], qkC 100 24, qkC 103 25, qkC 100 26, qkC 100 27, qkC 100 28, qjC 1 70, qjC 1 8, qkC 100 29, qkC 100 30, qkC 100 31, qkC 100 32, qkC 100 33, qjC 1 4]
noncomputable def zh53 : AH := [zc46, qiC 0 [qgS 34, qgS 11, qgS 12, qgS 13, qgS 14, qgS 15, qgS 16, qgS 17, qgA 5, qgN 1 0 3, qgS 18, qgA 2, qgN 1 1 1000, qgN 1 0 50, qgA 1, qgS 19, qgA 21, .inl ((.ofNat 1), []), qgA 39, .inl ((.ofNat 1), []), qgA 39, .inl ((.ofNat 1), []), qgA 39, .inl ((.ofNat 1), []), qgA 517, qgN 12 0 60, qgN 1 0 5, qgN 1 0 39, qgN 1 0 40, qgN 1 0 5, qgN 1 0 39, qgN 1 0 40, qgN 1 0 5, qgN 1 0 39, qgN 1 0 40, qgN 1 0 5, qgN 1 0 39, qgN 1 0 40, qgN 1 0 5, qgN 1 0 39, qgN 1 0 40, qgN 1 0 5, qgN 1 0 39, qgN 1 0 40, qgN 1 0 5, qgN 1 0 39, qgN 1 0 40, qgN 1 0 5, qgN 1 0 39, qgN 1 0 40, qgA 76, qgA 2, qgN 1 0 5, qgA 2, qgA 2, qgN 1 0 5, qgA 2, qgA 2, qgN 1 0 5, qgA 2, qgA 2, qgN 1 0 5, qgA 2, qgA 2, qgN 1 0 5, qgA 2, qgA 2, qgN 1 0 5, qgA 2, qgA 2, qgN 1 0 5, qgA 2, qgA 2, qgN 1 0 5, qgA 2, qgN 60 0 127, qgA 18], qkC 100 24, qkC 103 25, qkC 100 26, qkC 100 27, qkC 100 28, qjC 1 70, qjC 1 8, qkC 100 29, qkC 100 30, qkC 100 31, qkC 100 32, qkC 100 33, qjC 1 4]
noncomputable def c144_0 : Ct := (144, 2, (37, (zt2 [qtA 34]), [((.ofNat 1), [(20, (.negSucc 0)), (21, (.negSucc 0)), (22, (.negSucc 0)), (23, (.negSucc 0))])], [qvR 0, qvS 34], zh48, [(2, [1], []), (1, [1], []), (9, [1], [((.ofNat 440), []), (sL 16), (sL 35)]), (9, [1], [((.ofNat 200), []), (sL 11), (sL 36)])]),
  [((43, [(37, (.negSucc 2), (.ofNat 1)), qtN 38 1 4, qtN 39 0 1, qtN 40 0 1, qtN 41 0 1, qtN 42 0 1], [((.ofNat 1), [(39, (.negSucc 0)), (40, (.negSucc 0)), (41, (.negSucc 0)), (42, (.negSucc 0))])], [qvS 37], [zc46, qiC 0 [qgS 38, qgS 11, qgS 12, qgS 13, qgS 14, qgS 15, qgS 16, qgS 17, qgA 5, qgN 1 0 3, qgS 18, qgA 2, qgN 1 1 1000, qgN 1 0 50, qgA 1, qgS 19, qgA 21, qgS 39, qgA 39, qgS 40, qgA 39, qgS 41, qgA 39, qgS 42, qgA 517, qgN 12 0 60, qgN 1 0 5, qgN 1 0 39, qgN 1 0 40, qgN 1 0 5, qgN 1 0 39, qgN 1 0 40, qgN 1 0 5, qgN 1 0 39, qgN 1 0 40, qgN 1 0 5, qgN 1 0 39, qgN 1 0 40, qgN 1 0 5, qgN 1 0 39, qgN 1 0 40, qgN 1 0 5, qgN 1 0 39, qgN 1 0 40, qgN 1 0 5, qgN 1 0 39, qgN 1 0 40, qgN 1 0 5, qgN 1 0 39, qgN 1 0 40, qgA 76, qgA 2, qgN 1 0 5, qgA 2, qgA 2, qgN 1 0 5, qgA 2, qgA 2, qgN 1 0 5, qgA 2, qgA 2, qgN 1 0 5, qgA 2, qgA 2, qgN 1 0 5, qgA 2, qgA 2, qgN 1 0 5, qgA 2, qgA 2, qgN 1 0 5, qgA 2, qgA 2, qgN 1 0 5, qgA 2, qgN 60 0 127, qgA 18], qkC 100 24, qkC 103 25, qkC 100 26, qkC 100 27, qkC 100 28, qjC 1 70, qjC 1 8, qkC 100 29, qkC 100 30, qkC 100 31, qkC 100 32, qkC 100 33, qjC 1 4], [(2, [1], []), (1, [1], []), (9, [1], [((.ofNat 440), []), (sL 16), (sL 35)]), (9, [1], [((.ofNat 200), []), (sL 11), (sL 36)])]), 0, 0)])
noncomputable def c144_0_e : List Ct := [c145_0]
noncomputable def c144_0_p0 : PE := (34, [2, 0, 1], (37, (zt3 [qtN 34 1 4]), [((.ofNat 1), [(20, (.negSucc 0)), (21, (.negSucc 0)), (22, (.negSucc 0)), (23, (.negSucc 0))])], [qvK (.ofNat 0), qvR 0, qvS 34], zh49, [(2, [1], []), (1, [1], []), (9, [1], [((.ofNat 440), []), (sL 16), (sL 35)]), (9, [1], [((.ofNat 200), []), (sL 11), (sL 36)])]), symsL 37 0, some ((.ofNat 2419), []), 0, 0)
noncomputable def c144_0_p1 : PE := (34, [2, 0, 1, 3], (37, (zt3 [qtN 34 1 4]), [((.ofNat 1), [(20, (.negSucc 0)), (21, (.negSucc 0)), (22, (.negSucc 0)), (23, (.negSucc 0))])], [qvK (.ofNat 1), qvR 0, qvS 34, qvK (.ofNat 40)], zh50, [(2, [1], []), (1, [1], []), (9, [1], [((.ofNat 440), []), (sL 16), (sL 35)]), (9, [1], [((.ofNat 200), []), (sL 11), (sL 36)])]), symsL 37 0, some ((.ofNat 2255), []), 0, 0)
noncomputable def c144_0_p2 : PE := (34, [2, 0, 1, 3], (37, (zt3 [qtN 34 1 4]), [((.ofNat 1), [(20, (.negSucc 0)), (21, (.negSucc 0)), (22, (.negSucc 0)), (23, (.negSucc 0))])], [qvK (.ofNat 2), qvR 0, qvS 34, qvK (.ofNat 40)], zh51, [(2, [1], []), (1, [1], []), (9, [1], [((.ofNat 440), []), (sL 16), (sL 35)]), (9, [1], [((.ofNat 200), []), (sL 11), (sL 36)])]), symsL 37 0, some ((.ofNat 2091), []), 0, 0)
noncomputable def c144_0_p3 : PE := (34, [2, 0, 1, 3], (37, (zt3 [qtN 34 1 4]), [((.ofNat 1), [(20, (.negSucc 0)), (21, (.negSucc 0)), (22, (.negSucc 0)), (23, (.negSucc 0))])], [qvK (.ofNat 3), qvR 0, qvS 34, qvK (.ofNat 40)], zh52, [(2, [1], []), (1, [1], []), (9, [1], [((.ofNat 440), []), (sL 16), (sL 35)]), (9, [1], [((.ofNat 200), []), (sL 11), (sL 36)])]), symsL 37 0, some ((.ofNat 1927), []), 0, 0)
noncomputable def c144_0_p4 : PE := (34, [2, 0, 1, 3], (37, (zt3 [qtN 34 1 4]), [((.ofNat 1), [(20, (.negSucc 0)), (21, (.negSucc 0)), (22, (.negSucc 0)), (23, (.negSucc 0))])], [qvK (.ofNat 4), qvR 0, qvS 34, qvK (.ofNat 40)], zh53, [(2, [1], []), (1, [1], []), (9, [1], [((.ofNat 440), []), (sL 16), (sL 35)]), (9, [1], [((.ofNat 200), []), (sL 11), (sL 36)])]), symsL 37 0, some ((.ofNat 1763), []), 0, 0)
noncomputable def c144_0_p5 : PE := (41, [2, 3, 0, 1], (37, (zt3 [qtN 34 1 4]), [((.ofNat 1), [(20, (.negSucc 0)), (21, (.negSucc 0)), (22, (.negSucc 0)), (23, (.negSucc 0))])], [qvK (.ofNat 0), qvK (.ofNat 0), qvR 0, qvS 34], zh49, [(2, [1], []), (1, [1], []), (9, [1], [((.ofNat 440), []), (sL 16), (sL 35)]), (9, [1], [((.ofNat 200), []), (sL 11), (sL 36)])]), symsL 37 0, some ((.ofNat 2377), []), 0, 0)
noncomputable def c144_0_p6 : PE := (41, [2, 3, 0, 1], (37, (zt3 [qtN 34 1 4]), [((.ofNat 1), [(20, (.negSucc 0)), (21, (.negSucc 0)), (22, (.negSucc 0)), (23, (.negSucc 0))])], [qvK (.ofNat 0), qvK (.ofNat 1), qvR 0, qvS 34], zh49, [(2, [1], []), (1, [1], []), (9, [1], [((.ofNat 440), []), (sL 16), (sL 35)]), (9, [1], [((.ofNat 200), []), (sL 11), (sL 36)])]), symsL 37 0, some ((.ofNat 2376), []), 0, 0)
noncomputable def c144_0_p7 : PE := (41, [2, 3, 0, 1], (37, (zt3 [qtN 34 1 4]), [((.ofNat 1), [(20, (.negSucc 0)), (21, (.negSucc 0)), (22, (.negSucc 0)), (23, (.negSucc 0))])], [qvK (.ofNat 0), qvK (.ofNat 10), qvR 0, qvS 34], zh49, [(2, [1], []), (1, [1], []), (9, [1], [((.ofNat 440), []), (sL 16), (sL 35)]), (9, [1], [((.ofNat 200), []), (sL 11), (sL 36)])]), symsL 37 0, some ((.ofNat 2367), []), 0, 0)
noncomputable def c144_0_p8 : PE := (41, [2, 3, 0, 1], (37, (zt3 [qtN 34 1 4]), [((.ofNat 1), [(20, (.negSucc 0)), (21, (.negSucc 0)), (22, (.negSucc 0)), (23, (.negSucc 0))])], [qvK (.ofNat 0), qvK (.ofNat 11), qvR 0, qvS 34], zh49, [(2, [1], []), (1, [1], []), (9, [1], [((.ofNat 440), []), (sL 16), (sL 35)]), (9, [1], [((.ofNat 200), []), (sL 11), (sL 36)])]), symsL 37 0, some ((.ofNat 2366), []), 0, 0)
noncomputable def c144_0_p9 : PE := (41, [2, 3, 0, 1], (37, (zt3 [qtN 34 1 4]), [((.ofNat 1), [(20, (.negSucc 0)), (21, (.negSucc 0)), (22, (.negSucc 0)), (23, (.negSucc 0))])], [qvK (.ofNat 0), qvK (.ofNat 12), qvR 0, qvS 34], zh49, [(2, [1], []), (1, [1], []), (9, [1], [((.ofNat 440), []), (sL 16), (sL 35)]), (9, [1], [((.ofNat 200), []), (sL 11), (sL 36)])]), symsL 37 0, some ((.ofNat 2365), []), 0, 0)
noncomputable def c144_0_p10 : PE := (41, [2, 3, 0, 1], (37, (zt3 [qtN 34 1 4]), [((.ofNat 1), [(20, (.negSucc 0)), (21, (.negSucc 0)), (22, (.negSucc 0)), (23, (.negSucc 0))])], [qvK (.ofNat 0), qvK (.ofNat 13), qvR 0, qvS 34], zh50, [(2, [1], []), (1, [1], []), (9, [1], [((.ofNat 440), []), (sL 16), (sL 35)]), (9, [1], [((.ofNat 200), []), (sL 11), (sL 36)])]), symsL 37 0, some ((.ofNat 2364), []), 0, 0)
noncomputable def c144_0_p11 : PE := (41, [2, 3, 0, 1], (37, (zt3 [qtN 34 1 4]), [((.ofNat 1), [(20, (.negSucc 0)), (21, (.negSucc 0)), (22, (.negSucc 0)), (23, (.negSucc 0))])], [qvK (.ofNat 0), qvK (.ofNat 14), qvR 0, qvS 34], zh50, [(2, [1], []), (1, [1], []), (9, [1], [((.ofNat 440), []), (sL 16), (sL 35)]), (9, [1], [((.ofNat 200), []), (sL 11), (sL 36)])]), symsL 37 0, some ((.ofNat 2363), []), 0, 0)
noncomputable def c144_0_p12 : PE := (41, [2, 3, 0, 1], (37, (zt3 [qtN 34 1 4]), [((.ofNat 1), [(20, (.negSucc 0)), (21, (.negSucc 0)), (22, (.negSucc 0)), (23, (.negSucc 0))])], [qvK (.ofNat 0), qvK (.ofNat 15), qvR 0, qvS 34], zh50, [(2, [1], []), (1, [1], []), (9, [1], [((.ofNat 440), []), (sL 16), (sL 35)]), (9, [1], [((.ofNat 200), []), (sL 11), (sL 36)])]), symsL 37 0, some ((.ofNat 2362), []), 0, 0)
noncomputable def c144_0_p13 : PE := (41, [2, 3, 0, 1], (37, (zt3 [qtN 34 1 4]), [((.ofNat 1), [(20, (.negSucc 0)), (21, (.negSucc 0)), (22, (.negSucc 0)), (23, (.negSucc 0))])], [qvK (.ofNat 0), qvK (.ofNat 16), qvR 0, qvS 34], zh50, [(2, [1], []), (1, [1], []), (9, [1], [((.ofNat 440), []), (sL 16), (sL 35)]), (9, [1], [((.ofNat 200), []), (sL 11), (sL 36)])]), symsL 37 0, some ((.ofNat 2361), []), 0, 0)
noncomputable def c144_0_p14 : PE := (41, [2, 3, 0, 1], (37, (zt3 [qtN 34 1 4]), [((.ofNat 1), [(20, (.negSucc 0)), (21, (.negSucc 0)), (22, (.negSucc 0)), (23, (.negSucc 0))])], [qvK (.ofNat 0), qvK (.ofNat 17), qvR 0, qvS 34], zh50, [(2, [1], []), (1, [1], []), (9, [1], [((.ofNat 440), []), (sL 16), (sL 35)]), (9, [1], [((.ofNat 200), []), (sL 11), (sL 36)])]), symsL 37 0, some ((.ofNat 2360), []), 0, 0)
noncomputable def c144_0_p15 : PE := (41, [2, 3, 0, 1], (37, (zt3 [qtN 34 1 4]), [((.ofNat 1), [(20, (.negSucc 0)), (21, (.negSucc 0)), (22, (.negSucc 0)), (23, (.negSucc 0))])], [qvK (.ofNat 0), qvK (.ofNat 18), qvR 0, qvS 34], zh50, [(2, [1], []), (1, [1], []), (9, [1], [((.ofNat 440), []), (sL 16), (sL 35)]), (9, [1], [((.ofNat 200), []), (sL 11), (sL 36)])]), symsL 37 0, some ((.ofNat 2359), []), 0, 0)
noncomputable def c144_0_p16 : PE := (41, [2, 3, 0, 1], (37, (zt3 [qtN 34 1 4]), [((.ofNat 1), [(20, (.negSucc 0)), (21, (.negSucc 0)), (22, (.negSucc 0)), (23, (.negSucc 0))])], [qvK (.ofNat 0), qvK (.ofNat 19), qvR 0, qvS 34], zh50, [(2, [1], []), (1, [1], []), (9, [1], [((.ofNat 440), []), (sL 16), (sL 35)]), (9, [1], [((.ofNat 200), []), (sL 11), (sL 36)])]), symsL 37 0, some ((.ofNat 2358), []), 0, 0)
noncomputable def c144_0_p17 : PE := (41, [2, 3, 0, 1], (37, (zt3 [qtN 34 1 4]), [((.ofNat 1), [(20, (.negSucc 0)), (21, (.negSucc 0)), (22, (.negSucc 0)), (23, (.negSucc 0))])], [qvK (.ofNat 0), qvK (.ofNat 2), qvR 0, qvS 34], zh49, [(2, [1], []), (1, [1], []), (9, [1], [((.ofNat 440), []), (sL 16), (sL 35)]), (9, [1], [((.ofNat 200), []), (sL 11), (sL 36)])]), symsL 37 0, some ((.ofNat 2375), []), 0, 0)
noncomputable def c144_0_p18 : PE := (41, [2, 3, 0, 1], (37, (zt3 [qtN 34 1 4]), [((.ofNat 1), [(20, (.negSucc 0)), (21, (.negSucc 0)), (22, (.negSucc 0)), (23, (.negSucc 0))])], [qvK (.ofNat 0), qvK (.ofNat 20), qvR 0, qvS 34], zh50, [(2, [1], []), (1, [1], []), (9, [1], [((.ofNat 440), []), (sL 16), (sL 35)]), (9, [1], [((.ofNat 200), []), (sL 11), (sL 36)])]), symsL 37 0, some ((.ofNat 2357), []), 0, 0)
noncomputable def c144_0_p19 : PE := (41, [2, 3, 0, 1], (37, (zt3 [qtN 34 1 4]), [((.ofNat 1), [(20, (.negSucc 0)), (21, (.negSucc 0)), (22, (.negSucc 0)), (23, (.negSucc 0))])], [qvK (.ofNat 0), qvK (.ofNat 21), qvR 0, qvS 34], zh50, [(2, [1], []), (1, [1], []), (9, [1], [((.ofNat 440), []), (sL 16), (sL 35)]), (9, [1], [((.ofNat 200), []), (sL 11), (sL 36)])]), symsL 37 0, some ((.ofNat 2356), []), 0, 0)
noncomputable def c144_0_p20 : PE := (41, [2, 3, 0, 1], (37, (zt3 [qtN 34 1 4]), [((.ofNat 1), [(20, (.negSucc 0)), (21, (.negSucc 0)), (22, (.negSucc 0)), (23, (.negSucc 0))])], [qvK (.ofNat 0), qvK (.ofNat 22), qvR 0, qvS 34], zh50, [(2, [1], []), (1, [1], []), (9, [1], [((.ofNat 440), []), (sL 16), (sL 35)]), (9, [1], [((.ofNat 200), []), (sL 11), (sL 36)])]), symsL 37 0, some ((.ofNat 2355), []), 0, 0)
noncomputable def c144_0_p21 : PE := (41, [2, 3, 0, 1], (37, (zt3 [qtN 34 1 4]), [((.ofNat 1), [(20, (.negSucc 0)), (21, (.negSucc 0)), (22, (.negSucc 0)), (23, (.negSucc 0))])], [qvK (.ofNat 0), qvK (.ofNat 23), qvR 0, qvS 34], zh50, [(2, [1], []), (1, [1], []), (9, [1], [((.ofNat 440), []), (sL 16), (sL 35)]), (9, [1], [((.ofNat 200), []), (sL 11), (sL 36)])]), symsL 37 0, some ((.ofNat 2354), []), 0, 0)
noncomputable def c144_0_p22 : PE := (41, [2, 3, 0, 1], (37, (zt3 [qtN 34 1 4]), [((.ofNat 1), [(20, (.negSucc 0)), (21, (.negSucc 0)), (22, (.negSucc 0)), (23, (.negSucc 0))])], [qvK (.ofNat 0), qvK (.ofNat 24), qvR 0, qvS 34], zh50, [(2, [1], []), (1, [1], []), (9, [1], [((.ofNat 440), []), (sL 16), (sL 35)]), (9, [1], [((.ofNat 200), []), (sL 11), (sL 36)])]), symsL 37 0, some ((.ofNat 2353), []), 0, 0)
noncomputable def c144_0_p23 : PE := (41, [2, 3, 0, 1], (37, (zt3 [qtN 34 1 4]), [((.ofNat 1), [(20, (.negSucc 0)), (21, (.negSucc 0)), (22, (.negSucc 0)), (23, (.negSucc 0))])], [qvK (.ofNat 0), qvK (.ofNat 25), qvR 0, qvS 34], zh50, [(2, [1], []), (1, [1], []), (9, [1], [((.ofNat 440), []), (sL 16), (sL 35)]), (9, [1], [((.ofNat 200), []), (sL 11), (sL 36)])]), symsL 37 0, some ((.ofNat 2352), []), 0, 0)
noncomputable def c144_0_p24 : PE := (41, [2, 3, 0, 1], (37, (zt3 [qtN 34 1 4]), [((.ofNat 1), [(20, (.negSucc 0)), (21, (.negSucc 0)), (22, (.negSucc 0)), (23, (.negSucc 0))])], [qvK (.ofNat 0), qvK (.ofNat 26), qvR 0, qvS 34], zh50, [(2, [1], []), (1, [1], []), (9, [1], [((.ofNat 440), []), (sL 16), (sL 35)]), (9, [1], [((.ofNat 200), []), (sL 11), (sL 36)])]), symsL 37 0, some ((.ofNat 2351), []), 0, 0)
noncomputable def c144_0_p25 : PE := (41, [2, 3, 0, 1], (37, (zt3 [qtN 34 1 4]), [((.ofNat 1), [(20, (.negSucc 0)), (21, (.negSucc 0)), (22, (.negSucc 0)), (23, (.negSucc 0))])], [qvK (.ofNat 0), qvK (.ofNat 27), qvR 0, qvS 34], zh50, [(2, [1], []), (1, [1], []), (9, [1], [((.ofNat 440), []), (sL 16), (sL 35)]), (9, [1], [((.ofNat 200), []), (sL 11), (sL 36)])]), symsL 37 0, some ((.ofNat 2350), []), 0, 0)
noncomputable def c144_0_p26 : PE := (41, [2, 3, 0, 1], (37, (zt3 [qtN 34 1 4]), [((.ofNat 1), [(20, (.negSucc 0)), (21, (.negSucc 0)), (22, (.negSucc 0)), (23, (.negSucc 0))])], [qvK (.ofNat 0), qvK (.ofNat 28), qvR 0, qvS 34], zh50, [(2, [1], []), (1, [1], []), (9, [1], [((.ofNat 440), []), (sL 16), (sL 35)]), (9, [1], [((.ofNat 200), []), (sL 11), (sL 36)])]), symsL 37 0, some ((.ofNat 2349), []), 0, 0)
noncomputable def c144_0_p27 : PE := (41, [2, 3, 0, 1], (37, (zt3 [qtN 34 1 4]), [((.ofNat 1), [(20, (.negSucc 0)), (21, (.negSucc 0)), (22, (.negSucc 0)), (23, (.negSucc 0))])], [qvK (.ofNat 0), qvK (.ofNat 29), qvR 0, qvS 34], zh50, [(2, [1], []), (1, [1], []), (9, [1], [((.ofNat 440), []), (sL 16), (sL 35)]), (9, [1], [((.ofNat 200), []), (sL 11), (sL 36)])]), symsL 37 0, some ((.ofNat 2348), []), 0, 0)
noncomputable def c144_0_p28 : PE := (41, [2, 3, 0, 1], (37, (zt3 [qtN 34 1 4]), [((.ofNat 1), [(20, (.negSucc 0)), (21, (.negSucc 0)), (22, (.negSucc 0)), (23, (.negSucc 0))])], [qvK (.ofNat 0), qvK (.ofNat 3), qvR 0, qvS 34], zh49, [(2, [1], []), (1, [1], []), (9, [1], [((.ofNat 440), []), (sL 16), (sL 35)]), (9, [1], [((.ofNat 200), []), (sL 11), (sL 36)])]), symsL 37 0, some ((.ofNat 2374), []), 0, 0)
noncomputable def c144_0_p29 : PE := (41, [2, 3, 0, 1], (37, (zt3 [qtN 34 1 4]), [((.ofNat 1), [(20, (.negSucc 0)), (21, (.negSucc 0)), (22, (.negSucc 0)), (23, (.negSucc 0))])], [qvK (.ofNat 0), qvK (.ofNat 30), qvR 0, qvS 34], zh50, [(2, [1], []), (1, [1], []), (9, [1], [((.ofNat 440), []), (sL 16), (sL 35)]), (9, [1], [((.ofNat 200), []), (sL 11), (sL 36)])]), symsL 37 0, some ((.ofNat 2347), []), 0, 0)
noncomputable def c144_0_p30 : PE := (41, [2, 3, 0, 1], (37, (zt3 [qtN 34 1 4]), [((.ofNat 1), [(20, (.negSucc 0)), (21, (.negSucc 0)), (22, (.negSucc 0)), (23, (.negSucc 0))])], [qvK (.ofNat 0), qvK (.ofNat 31), qvR 0, qvS 34], zh50, [(2, [1], []), (1, [1], []), (9, [1], [((.ofNat 440), []), (sL 16), (sL 35)]), (9, [1], [((.ofNat 200), []), (sL 11), (sL 36)])]), symsL 37 0, some ((.ofNat 2346), []), 0, 0)
noncomputable def c144_0_p31 : PE := (41, [2, 3, 0, 1], (37, (zt3 [qtN 34 1 4]), [((.ofNat 1), [(20, (.negSucc 0)), (21, (.negSucc 0)), (22, (.negSucc 0)), (23, (.negSucc 0))])], [qvK (.ofNat 0), qvK (.ofNat 32), qvR 0, qvS 34], zh50, [(2, [1], []), (1, [1], []), (9, [1], [((.ofNat 440), []), (sL 16), (sL 35)]), (9, [1], [((.ofNat 200), []), (sL 11), (sL 36)])]), symsL 37 0, some ((.ofNat 2345), []), 0, 0)
noncomputable def c144_0_p32 : PE := (41, [2, 3, 0, 1], (37, (zt3 [qtN 34 1 4]), [((.ofNat 1), [(20, (.negSucc 0)), (21, (.negSucc 0)), (22, (.negSucc 0)), (23, (.negSucc 0))])], [qvK (.ofNat 0), qvK (.ofNat 33), qvR 0, qvS 34], zh50, [(2, [1], []), (1, [1], []), (9, [1], [((.ofNat 440), []), (sL 16), (sL 35)]), (9, [1], [((.ofNat 200), []), (sL 11), (sL 36)])]), symsL 37 0, some ((.ofNat 2344), []), 0, 0)
noncomputable def c144_0_p33 : PE := (41, [2, 3, 0, 1], (37, (zt3 [qtN 34 1 4]), [((.ofNat 1), [(20, (.negSucc 0)), (21, (.negSucc 0)), (22, (.negSucc 0)), (23, (.negSucc 0))])], [qvK (.ofNat 0), qvK (.ofNat 34), qvR 0, qvS 34], zh50, [(2, [1], []), (1, [1], []), (9, [1], [((.ofNat 440), []), (sL 16), (sL 35)]), (9, [1], [((.ofNat 200), []), (sL 11), (sL 36)])]), symsL 37 0, some ((.ofNat 2343), []), 0, 0)
noncomputable def c144_0_p34 : PE := (41, [2, 3, 0, 1], (37, (zt3 [qtN 34 1 4]), [((.ofNat 1), [(20, (.negSucc 0)), (21, (.negSucc 0)), (22, (.negSucc 0)), (23, (.negSucc 0))])], [qvK (.ofNat 0), qvK (.ofNat 35), qvR 0, qvS 34], zh50, [(2, [1], []), (1, [1], []), (9, [1], [((.ofNat 440), []), (sL 16), (sL 35)]), (9, [1], [((.ofNat 200), []), (sL 11), (sL 36)])]), symsL 37 0, some ((.ofNat 2342), []), 0, 0)
noncomputable def c144_0_p35 : PE := (41, [2, 3, 0, 1], (37, (zt3 [qtN 34 1 4]), [((.ofNat 1), [(20, (.negSucc 0)), (21, (.negSucc 0)), (22, (.negSucc 0)), (23, (.negSucc 0))])], [qvK (.ofNat 0), qvK (.ofNat 36), qvR 0, qvS 34], zh50, [(2, [1], []), (1, [1], []), (9, [1], [((.ofNat 440), []), (sL 16), (sL 35)]), (9, [1], [((.ofNat 200), []), (sL 11), (sL 36)])]), symsL 37 0, some ((.ofNat 2341), []), 0, 0)
noncomputable def c144_0_p36 : PE := (41, [2, 3, 0, 1], (37, (zt3 [qtN 34 1 4]), [((.ofNat 1), [(20, (.negSucc 0)), (21, (.negSucc 0)), (22, (.negSucc 0)), (23, (.negSucc 0))])], [qvK (.ofNat 0), qvK (.ofNat 37), qvR 0, qvS 34], zh50, [(2, [1], []), (1, [1], []), (9, [1], [((.ofNat 440), []), (sL 16), (sL 35)]), (9, [1], [((.ofNat 200), []), (sL 11), (sL 36)])]), symsL 37 0, some ((.ofNat 2340), []), 0, 0)
noncomputable def c144_0_p37 : PE := (41, [2, 3, 0, 1], (37, (zt3 [qtN 34 1 4]), [((.ofNat 1), [(20, (.negSucc 0)), (21, (.negSucc 0)), (22, (.negSucc 0)), (23, (.negSucc 0))])], [qvK (.ofNat 0), qvK (.ofNat 38), qvR 0, qvS 34], zh50, [(2, [1], []), (1, [1], []), (9, [1], [((.ofNat 440), []), (sL 16), (sL 35)]), (9, [1], [((.ofNat 200), []), (sL 11), (sL 36)])]), symsL 37 0, some ((.ofNat 2339), []), 0, 0)
noncomputable def c144_0_p38 : PE := (41, [2, 3, 0, 1], (37, (zt3 [qtN 34 1 4]), [((.ofNat 1), [(20, (.negSucc 0)), (21, (.negSucc 0)), (22, (.negSucc 0)), (23, (.negSucc 0))])], [qvK (.ofNat 0), qvK (.ofNat 39), qvR 0, qvS 34], zh50, [(2, [1], []), (1, [1], []), (9, [1], [((.ofNat 440), []), (sL 16), (sL 35)]), (9, [1], [((.ofNat 200), []), (sL 11), (sL 36)])]), symsL 37 0, some ((.ofNat 2338), []), 0, 0)
noncomputable def c144_0_p39 : PE := (41, [2, 3, 0, 1], (37, (zt3 [qtN 34 1 4]), [((.ofNat 1), [(20, (.negSucc 0)), (21, (.negSucc 0)), (22, (.negSucc 0)), (23, (.negSucc 0))])], [qvK (.ofNat 0), qvK (.ofNat 4), qvR 0, qvS 34], zh49, [(2, [1], []), (1, [1], []), (9, [1], [((.ofNat 440), []), (sL 16), (sL 35)]), (9, [1], [((.ofNat 200), []), (sL 11), (sL 36)])]), symsL 37 0, some ((.ofNat 2373), []), 0, 0)
noncomputable def c144_0_p40 : PE := (41, [2, 3, 0, 1], (37, (zt3 [qtN 34 1 4]), [((.ofNat 1), [(20, (.negSucc 0)), (21, (.negSucc 0)), (22, (.negSucc 0)), (23, (.negSucc 0))])], [qvK (.ofNat 0), qvK (.ofNat 40), qvR 0, qvS 34], zh50, [(2, [1], []), (1, [1], []), (9, [1], [((.ofNat 440), []), (sL 16), (sL 35)]), (9, [1], [((.ofNat 200), []), (sL 11), (sL 36)])]), symsL 37 0, some ((.ofNat 2337), []), 0, 0)
noncomputable def c144_0_p41 : PE := (41, [2, 3, 0, 1], (37, (zt3 [qtN 34 1 4]), [((.ofNat 1), [(20, (.negSucc 0)), (21, (.negSucc 0)), (22, (.negSucc 0)), (23, (.negSucc 0))])], [qvK (.ofNat 0), qvK (.ofNat 5), qvR 0, qvS 34], zh49, [(2, [1], []), (1, [1], []), (9, [1], [((.ofNat 440), []), (sL 16), (sL 35)]), (9, [1], [((.ofNat 200), []), (sL 11), (sL 36)])]), symsL 37 0, some ((.ofNat 2372), []), 0, 0)
noncomputable def c144_0_p42 : PE := (41, [2, 3, 0, 1], (37, (zt3 [qtN 34 1 4]), [((.ofNat 1), [(20, (.negSucc 0)), (21, (.negSucc 0)), (22, (.negSucc 0)), (23, (.negSucc 0))])], [qvK (.ofNat 0), qvK (.ofNat 6), qvR 0, qvS 34], zh49, [(2, [1], []), (1, [1], []), (9, [1], [((.ofNat 440), []), (sL 16), (sL 35)]), (9, [1], [((.ofNat 200), []), (sL 11), (sL 36)])]), symsL 37 0, some ((.ofNat 2371), []), 0, 0)
noncomputable def c144_0_p43 : PE := (41, [2, 3, 0, 1], (37, (zt3 [qtN 34 1 4]), [((.ofNat 1), [(20, (.negSucc 0)), (21, (.negSucc 0)), (22, (.negSucc 0)), (23, (.negSucc 0))])], [qvK (.ofNat 0), qvK (.ofNat 7), qvR 0, qvS 34], zh49, [(2, [1], []), (1, [1], []), (9, [1], [((.ofNat 440), []), (sL 16), (sL 35)]), (9, [1], [((.ofNat 200), []), (sL 11), (sL 36)])]), symsL 37 0, some ((.ofNat 2370), []), 0, 0)
noncomputable def c144_0_p44 : PE := (41, [2, 3, 0, 1], (37, (zt3 [qtN 34 1 4]), [((.ofNat 1), [(20, (.negSucc 0)), (21, (.negSucc 0)), (22, (.negSucc 0)), (23, (.negSucc 0))])], [qvK (.ofNat 0), qvK (.ofNat 8), qvR 0, qvS 34], zh49, [(2, [1], []), (1, [1], []), (9, [1], [((.ofNat 440), []), (sL 16), (sL 35)]), (9, [1], [((.ofNat 200), []), (sL 11), (sL 36)])]), symsL 37 0, some ((.ofNat 2369), []), 0, 0)
noncomputable def c144_0_p45 : PE := (41, [2, 3, 0, 1], (37, (zt3 [qtN 34 1 4]), [((.ofNat 1), [(20, (.negSucc 0)), (21, (.negSucc 0)), (22, (.negSucc 0)), (23, (.negSucc 0))])], [qvK (.ofNat 0), qvK (.ofNat 9), qvR 0, qvS 34], zh49, [(2, [1], []), (1, [1], []), (9, [1], [((.ofNat 440), []), (sL 16), (sL 35)]), (9, [1], [((.ofNat 200), []), (sL 11), (sL 36)])]), symsL 37 0, some ((.ofNat 2368), []), 0, 0)
noncomputable def c144_0_p46 : PE := (41, [2, 3, 0, 1], (37, (zt3 [qtN 34 1 4]), [((.ofNat 1), [(20, (.negSucc 0)), (21, (.negSucc 0)), (22, (.negSucc 0)), (23, (.negSucc 0))])], [qvK (.ofNat 1), qvK (.ofNat 0), qvR 0, qvS 34], zh50, [(2, [1], []), (1, [1], []), (9, [1], [((.ofNat 440), []), (sL 16), (sL 35)]), (9, [1], [((.ofNat 200), []), (sL 11), (sL 36)])]), symsL 37 0, some ((.ofNat 2213), []), 0, 0)
noncomputable def c144_0_p47 : PE := (41, [2, 3, 0, 1], (37, (zt3 [qtN 34 1 4]), [((.ofNat 1), [(20, (.negSucc 0)), (21, (.negSucc 0)), (22, (.negSucc 0)), (23, (.negSucc 0))])], [qvK (.ofNat 1), qvK (.ofNat 1), qvR 0, qvS 34], zh50, [(2, [1], []), (1, [1], []), (9, [1], [((.ofNat 440), []), (sL 16), (sL 35)]), (9, [1], [((.ofNat 200), []), (sL 11), (sL 36)])]), symsL 37 0, some ((.ofNat 2212), []), 0, 0)
noncomputable def c144_0_p48 : PE := (41, [2, 3, 0, 1], (37, (zt3 [qtN 34 1 4]), [((.ofNat 1), [(20, (.negSucc 0)), (21, (.negSucc 0)), (22, (.negSucc 0)), (23, (.negSucc 0))])], [qvK (.ofNat 1), qvK (.ofNat 10), qvR 0, qvS 34], zh50, [(2, [1], []), (1, [1], []), (9, [1], [((.ofNat 440), []), (sL 16), (sL 35)]), (9, [1], [((.ofNat 200), []), (sL 11), (sL 36)])]), symsL 37 0, some ((.ofNat 2203), []), 0, 0)
noncomputable def c144_0_p49 : PE := (41, [2, 3, 0, 1], (37, (zt3 [qtN 34 1 4]), [((.ofNat 1), [(20, (.negSucc 0)), (21, (.negSucc 0)), (22, (.negSucc 0)), (23, (.negSucc 0))])], [qvK (.ofNat 1), qvK (.ofNat 11), qvR 0, qvS 34], zh50, [(2, [1], []), (1, [1], []), (9, [1], [((.ofNat 440), []), (sL 16), (sL 35)]), (9, [1], [((.ofNat 200), []), (sL 11), (sL 36)])]), symsL 37 0, some ((.ofNat 2202), []), 0, 0)
noncomputable def c144_0_p50 : PE := (41, [2, 3, 0, 1], (37, (zt3 [qtN 34 1 4]), [((.ofNat 1), [(20, (.negSucc 0)), (21, (.negSucc 0)), (22, (.negSucc 0)), (23, (.negSucc 0))])], [qvK (.ofNat 1), qvK (.ofNat 12), qvR 0, qvS 34], zh50, [(2, [1], []), (1, [1], []), (9, [1], [((.ofNat 440), []), (sL 16), (sL 35)]), (9, [1], [((.ofNat 200), []), (sL 11), (sL 36)])]), symsL 37 0, some ((.ofNat 2201), []), 0, 0)
noncomputable def c144_0_p51 : PE := (41, [2, 3, 0, 1], (37, (zt3 [qtN 34 1 4]), [((.ofNat 1), [(20, (.negSucc 0)), (21, (.negSucc 0)), (22, (.negSucc 0)), (23, (.negSucc 0))])], [qvK (.ofNat 1), qvK (.ofNat 13), qvR 0, qvS 34], zh51, [(2, [1], []), (1, [1], []), (9, [1], [((.ofNat 440), []), (sL 16), (sL 35)]), (9, [1], [((.ofNat 200), []), (sL 11), (sL 36)])]), symsL 37 0, some ((.ofNat 2200), []), 0, 0)
noncomputable def c144_0_p52 : PE := (41, [2, 3, 0, 1], (37, (zt3 [qtN 34 1 4]), [((.ofNat 1), [(20, (.negSucc 0)), (21, (.negSucc 0)), (22, (.negSucc 0)), (23, (.negSucc 0))])], [qvK (.ofNat 1), qvK (.ofNat 14), qvR 0, qvS 34], zh51, [(2, [1], []), (1, [1], []), (9, [1], [((.ofNat 440), []), (sL 16), (sL 35)]), (9, [1], [((.ofNat 200), []), (sL 11), (sL 36)])]), symsL 37 0, some ((.ofNat 2199), []), 0, 0)
noncomputable def c144_0_p53 : PE := (41, [2, 3, 0, 1], (37, (zt3 [qtN 34 1 4]), [((.ofNat 1), [(20, (.negSucc 0)), (21, (.negSucc 0)), (22, (.negSucc 0)), (23, (.negSucc 0))])], [qvK (.ofNat 1), qvK (.ofNat 15), qvR 0, qvS 34], zh51, [(2, [1], []), (1, [1], []), (9, [1], [((.ofNat 440), []), (sL 16), (sL 35)]), (9, [1], [((.ofNat 200), []), (sL 11), (sL 36)])]), symsL 37 0, some ((.ofNat 2198), []), 0, 0)
noncomputable def c144_0_p54 : PE := (41, [2, 3, 0, 1], (37, (zt3 [qtN 34 1 4]), [((.ofNat 1), [(20, (.negSucc 0)), (21, (.negSucc 0)), (22, (.negSucc 0)), (23, (.negSucc 0))])], [qvK (.ofNat 1), qvK (.ofNat 16), qvR 0, qvS 34], zh51, [(2, [1], []), (1, [1], []), (9, [1], [((.ofNat 440), []), (sL 16), (sL 35)]), (9, [1], [((.ofNat 200), []), (sL 11), (sL 36)])]), symsL 37 0, some ((.ofNat 2197), []), 0, 0)
noncomputable def c144_0_p55 : PE := (41, [2, 3, 0, 1], (37, (zt3 [qtN 34 1 4]), [((.ofNat 1), [(20, (.negSucc 0)), (21, (.negSucc 0)), (22, (.negSucc 0)), (23, (.negSucc 0))])], [qvK (.ofNat 1), qvK (.ofNat 17), qvR 0, qvS 34], zh51, [(2, [1], []), (1, [1], []), (9, [1], [((.ofNat 440), []), (sL 16), (sL 35)]), (9, [1], [((.ofNat 200), []), (sL 11), (sL 36)])]), symsL 37 0, some ((.ofNat 2196), []), 0, 0)
noncomputable def c144_0_p56 : PE := (41, [2, 3, 0, 1], (37, (zt3 [qtN 34 1 4]), [((.ofNat 1), [(20, (.negSucc 0)), (21, (.negSucc 0)), (22, (.negSucc 0)), (23, (.negSucc 0))])], [qvK (.ofNat 1), qvK (.ofNat 18), qvR 0, qvS 34], zh51, [(2, [1], []), (1, [1], []), (9, [1], [((.ofNat 440), []), (sL 16), (sL 35)]), (9, [1], [((.ofNat 200), []), (sL 11), (sL 36)])]), symsL 37 0, some ((.ofNat 2195), []), 0, 0)
noncomputable def c144_0_p57 : PE := (41, [2, 3, 0, 1], (37, (zt3 [qtN 34 1 4]), [((.ofNat 1), [(20, (.negSucc 0)), (21, (.negSucc 0)), (22, (.negSucc 0)), (23, (.negSucc 0))])], [qvK (.ofNat 1), qvK (.ofNat 19), qvR 0, qvS 34], zh51, [(2, [1], []), (1, [1], []), (9, [1], [((.ofNat 440), []), (sL 16), (sL 35)]), (9, [1], [((.ofNat 200), []), (sL 11), (sL 36)])]), symsL 37 0, some ((.ofNat 2194), []), 0, 0)
noncomputable def c144_0_p58 : PE := (41, [2, 3, 0, 1], (37, (zt3 [qtN 34 1 4]), [((.ofNat 1), [(20, (.negSucc 0)), (21, (.negSucc 0)), (22, (.negSucc 0)), (23, (.negSucc 0))])], [qvK (.ofNat 1), qvK (.ofNat 2), qvR 0, qvS 34], zh50, [(2, [1], []), (1, [1], []), (9, [1], [((.ofNat 440), []), (sL 16), (sL 35)]), (9, [1], [((.ofNat 200), []), (sL 11), (sL 36)])]), symsL 37 0, some ((.ofNat 2211), []), 0, 0)
noncomputable def c144_0_p59 : PE := (41, [2, 3, 0, 1], (37, (zt3 [qtN 34 1 4]), [((.ofNat 1), [(20, (.negSucc 0)), (21, (.negSucc 0)), (22, (.negSucc 0)), (23, (.negSucc 0))])], [qvK (.ofNat 1), qvK (.ofNat 20), qvR 0, qvS 34], zh51, [(2, [1], []), (1, [1], []), (9, [1], [((.ofNat 440), []), (sL 16), (sL 35)]), (9, [1], [((.ofNat 200), []), (sL 11), (sL 36)])]), symsL 37 0, some ((.ofNat 2193), []), 0, 0)
noncomputable def c144_0_p60 : PE := (41, [2, 3, 0, 1], (37, (zt3 [qtN 34 1 4]), [((.ofNat 1), [(20, (.negSucc 0)), (21, (.negSucc 0)), (22, (.negSucc 0)), (23, (.negSucc 0))])], [qvK (.ofNat 1), qvK (.ofNat 21), qvR 0, qvS 34], zh51, [(2, [1], []), (1, [1], []), (9, [1], [((.ofNat 440), []), (sL 16), (sL 35)]), (9, [1], [((.ofNat 200), []), (sL 11), (sL 36)])]), symsL 37 0, some ((.ofNat 2192), []), 0, 0)
noncomputable def c144_0_p61 : PE := (41, [2, 3, 0, 1], (37, (zt3 [qtN 34 1 4]), [((.ofNat 1), [(20, (.negSucc 0)), (21, (.negSucc 0)), (22, (.negSucc 0)), (23, (.negSucc 0))])], [qvK (.ofNat 1), qvK (.ofNat 22), qvR 0, qvS 34], zh51, [(2, [1], []), (1, [1], []), (9, [1], [((.ofNat 440), []), (sL 16), (sL 35)]), (9, [1], [((.ofNat 200), []), (sL 11), (sL 36)])]), symsL 37 0, some ((.ofNat 2191), []), 0, 0)
noncomputable def c144_0_p62 : PE := (41, [2, 3, 0, 1], (37, (zt3 [qtN 34 1 4]), [((.ofNat 1), [(20, (.negSucc 0)), (21, (.negSucc 0)), (22, (.negSucc 0)), (23, (.negSucc 0))])], [qvK (.ofNat 1), qvK (.ofNat 23), qvR 0, qvS 34], zh51, [(2, [1], []), (1, [1], []), (9, [1], [((.ofNat 440), []), (sL 16), (sL 35)]), (9, [1], [((.ofNat 200), []), (sL 11), (sL 36)])]), symsL 37 0, some ((.ofNat 2190), []), 0, 0)
noncomputable def c144_0_p63 : PE := (41, [2, 3, 0, 1], (37, (zt3 [qtN 34 1 4]), [((.ofNat 1), [(20, (.negSucc 0)), (21, (.negSucc 0)), (22, (.negSucc 0)), (23, (.negSucc 0))])], [qvK (.ofNat 1), qvK (.ofNat 24), qvR 0, qvS 34], zh51, [(2, [1], []), (1, [1], []), (9, [1], [((.ofNat 440), []), (sL 16), (sL 35)]), (9, [1], [((.ofNat 200), []), (sL 11), (sL 36)])]), symsL 37 0, some ((.ofNat 2189), []), 0, 0)
noncomputable def c144_0_p64 : PE := (41, [2, 3, 0, 1], (37, (zt3 [qtN 34 1 4]), [((.ofNat 1), [(20, (.negSucc 0)), (21, (.negSucc 0)), (22, (.negSucc 0)), (23, (.negSucc 0))])], [qvK (.ofNat 1), qvK (.ofNat 25), qvR 0, qvS 34], zh51, [(2, [1], []), (1, [1], []), (9, [1], [((.ofNat 440), []), (sL 16), (sL 35)]), (9, [1], [((.ofNat 200), []), (sL 11), (sL 36)])]), symsL 37 0, some ((.ofNat 2188), []), 0, 0)
noncomputable def c144_0_p65 : PE := (41, [2, 3, 0, 1], (37, (zt3 [qtN 34 1 4]), [((.ofNat 1), [(20, (.negSucc 0)), (21, (.negSucc 0)), (22, (.negSucc 0)), (23, (.negSucc 0))])], [qvK (.ofNat 1), qvK (.ofNat 26), qvR 0, qvS 34], zh51, [(2, [1], []), (1, [1], []), (9, [1], [((.ofNat 440), []), (sL 16), (sL 35)]), (9, [1], [((.ofNat 200), []), (sL 11), (sL 36)])]), symsL 37 0, some ((.ofNat 2187), []), 0, 0)
noncomputable def c144_0_p66 : PE := (41, [2, 3, 0, 1], (37, (zt3 [qtN 34 1 4]), [((.ofNat 1), [(20, (.negSucc 0)), (21, (.negSucc 0)), (22, (.negSucc 0)), (23, (.negSucc 0))])], [qvK (.ofNat 1), qvK (.ofNat 27), qvR 0, qvS 34], zh51, [(2, [1], []), (1, [1], []), (9, [1], [((.ofNat 440), []), (sL 16), (sL 35)]), (9, [1], [((.ofNat 200), []), (sL 11), (sL 36)])]), symsL 37 0, some ((.ofNat 2186), []), 0, 0)
noncomputable def c144_0_p67 : PE := (41, [2, 3, 0, 1], (37, (zt3 [qtN 34 1 4]), [((.ofNat 1), [(20, (.negSucc 0)), (21, (.negSucc 0)), (22, (.negSucc 0)), (23, (.negSucc 0))])], [qvK (.ofNat 1), qvK (.ofNat 28), qvR 0, qvS 34], zh51, [(2, [1], []), (1, [1], []), (9, [1], [((.ofNat 440), []), (sL 16), (sL 35)]), (9, [1], [((.ofNat 200), []), (sL 11), (sL 36)])]), symsL 37 0, some ((.ofNat 2185), []), 0, 0)
noncomputable def c144_0_p68 : PE := (41, [2, 3, 0, 1], (37, (zt3 [qtN 34 1 4]), [((.ofNat 1), [(20, (.negSucc 0)), (21, (.negSucc 0)), (22, (.negSucc 0)), (23, (.negSucc 0))])], [qvK (.ofNat 1), qvK (.ofNat 29), qvR 0, qvS 34], zh51, [(2, [1], []), (1, [1], []), (9, [1], [((.ofNat 440), []), (sL 16), (sL 35)]), (9, [1], [((.ofNat 200), []), (sL 11), (sL 36)])]), symsL 37 0, some ((.ofNat 2184), []), 0, 0)
noncomputable def c144_0_p69 : PE := (41, [2, 3, 0, 1], (37, (zt3 [qtN 34 1 4]), [((.ofNat 1), [(20, (.negSucc 0)), (21, (.negSucc 0)), (22, (.negSucc 0)), (23, (.negSucc 0))])], [qvK (.ofNat 1), qvK (.ofNat 3), qvR 0, qvS 34], zh50, [(2, [1], []), (1, [1], []), (9, [1], [((.ofNat 440), []), (sL 16), (sL 35)]), (9, [1], [((.ofNat 200), []), (sL 11), (sL 36)])]), symsL 37 0, some ((.ofNat 2210), []), 0, 0)
noncomputable def c144_0_p70 : PE := (41, [2, 3, 0, 1], (37, (zt3 [qtN 34 1 4]), [((.ofNat 1), [(20, (.negSucc 0)), (21, (.negSucc 0)), (22, (.negSucc 0)), (23, (.negSucc 0))])], [qvK (.ofNat 1), qvK (.ofNat 30), qvR 0, qvS 34], zh51, [(2, [1], []), (1, [1], []), (9, [1], [((.ofNat 440), []), (sL 16), (sL 35)]), (9, [1], [((.ofNat 200), []), (sL 11), (sL 36)])]), symsL 37 0, some ((.ofNat 2183), []), 0, 0)
noncomputable def c144_0_p71 : PE := (41, [2, 3, 0, 1], (37, (zt3 [qtN 34 1 4]), [((.ofNat 1), [(20, (.negSucc 0)), (21, (.negSucc 0)), (22, (.negSucc 0)), (23, (.negSucc 0))])], [qvK (.ofNat 1), qvK (.ofNat 31), qvR 0, qvS 34], zh51, [(2, [1], []), (1, [1], []), (9, [1], [((.ofNat 440), []), (sL 16), (sL 35)]), (9, [1], [((.ofNat 200), []), (sL 11), (sL 36)])]), symsL 37 0, some ((.ofNat 2182), []), 0, 0)
noncomputable def c144_0_p72 : PE := (41, [2, 3, 0, 1], (37, (zt3 [qtN 34 1 4]), [((.ofNat 1), [(20, (.negSucc 0)), (21, (.negSucc 0)), (22, (.negSucc 0)), (23, (.negSucc 0))])], [qvK (.ofNat 1), qvK (.ofNat 32), qvR 0, qvS 34], zh51, [(2, [1], []), (1, [1], []), (9, [1], [((.ofNat 440), []), (sL 16), (sL 35)]), (9, [1], [((.ofNat 200), []), (sL 11), (sL 36)])]), symsL 37 0, some ((.ofNat 2181), []), 0, 0)
noncomputable def c144_0_p73 : PE := (41, [2, 3, 0, 1], (37, (zt3 [qtN 34 1 4]), [((.ofNat 1), [(20, (.negSucc 0)), (21, (.negSucc 0)), (22, (.negSucc 0)), (23, (.negSucc 0))])], [qvK (.ofNat 1), qvK (.ofNat 33), qvR 0, qvS 34], zh51, [(2, [1], []), (1, [1], []), (9, [1], [((.ofNat 440), []), (sL 16), (sL 35)]), (9, [1], [((.ofNat 200), []), (sL 11), (sL 36)])]), symsL 37 0, some ((.ofNat 2180), []), 0, 0)
noncomputable def c144_0_p74 : PE := (41, [2, 3, 0, 1], (37, (zt3 [qtN 34 1 4]), [((.ofNat 1), [(20, (.negSucc 0)), (21, (.negSucc 0)), (22, (.negSucc 0)), (23, (.negSucc 0))])], [qvK (.ofNat 1), qvK (.ofNat 34), qvR 0, qvS 34], zh51, [(2, [1], []), (1, [1], []), (9, [1], [((.ofNat 440), []), (sL 16), (sL 35)]), (9, [1], [((.ofNat 200), []), (sL 11), (sL 36)])]), symsL 37 0, some ((.ofNat 2179), []), 0, 0)
noncomputable def c144_0_p75 : PE := (41, [2, 3, 0, 1], (37, (zt3 [qtN 34 1 4]), [((.ofNat 1), [(20, (.negSucc 0)), (21, (.negSucc 0)), (22, (.negSucc 0)), (23, (.negSucc 0))])], [qvK (.ofNat 1), qvK (.ofNat 35), qvR 0, qvS 34], zh51, [(2, [1], []), (1, [1], []), (9, [1], [((.ofNat 440), []), (sL 16), (sL 35)]), (9, [1], [((.ofNat 200), []), (sL 11), (sL 36)])]), symsL 37 0, some ((.ofNat 2178), []), 0, 0)
noncomputable def c144_0_p76 : PE := (41, [2, 3, 0, 1], (37, (zt3 [qtN 34 1 4]), [((.ofNat 1), [(20, (.negSucc 0)), (21, (.negSucc 0)), (22, (.negSucc 0)), (23, (.negSucc 0))])], [qvK (.ofNat 1), qvK (.ofNat 36), qvR 0, qvS 34], zh51, [(2, [1], []), (1, [1], []), (9, [1], [((.ofNat 440), []), (sL 16), (sL 35)]), (9, [1], [((.ofNat 200), []), (sL 11), (sL 36)])]), symsL 37 0, some ((.ofNat 2177), []), 0, 0)
noncomputable def c144_0_p77 : PE := (41, [2, 3, 0, 1], (37, (zt3 [qtN 34 1 4]), [((.ofNat 1), [(20, (.negSucc 0)), (21, (.negSucc 0)), (22, (.negSucc 0)), (23, (.negSucc 0))])], [qvK (.ofNat 1), qvK (.ofNat 37), qvR 0, qvS 34], zh51, [(2, [1], []), (1, [1], []), (9, [1], [((.ofNat 440), []), (sL 16), (sL 35)]), (9, [1], [((.ofNat 200), []), (sL 11), (sL 36)])]), symsL 37 0, some ((.ofNat 2176), []), 0, 0)
noncomputable def c144_0_p78 : PE := (41, [2, 3, 0, 1], (37, (zt3 [qtN 34 1 4]), [((.ofNat 1), [(20, (.negSucc 0)), (21, (.negSucc 0)), (22, (.negSucc 0)), (23, (.negSucc 0))])], [qvK (.ofNat 1), qvK (.ofNat 38), qvR 0, qvS 34], zh51, [(2, [1], []), (1, [1], []), (9, [1], [((.ofNat 440), []), (sL 16), (sL 35)]), (9, [1], [((.ofNat 200), []), (sL 11), (sL 36)])]), symsL 37 0, some ((.ofNat 2175), []), 0, 0)
noncomputable def c144_0_p79 : PE := (41, [2, 3, 0, 1], (37, (zt3 [qtN 34 1 4]), [((.ofNat 1), [(20, (.negSucc 0)), (21, (.negSucc 0)), (22, (.negSucc 0)), (23, (.negSucc 0))])], [qvK (.ofNat 1), qvK (.ofNat 39), qvR 0, qvS 34], zh51, [(2, [1], []), (1, [1], []), (9, [1], [((.ofNat 440), []), (sL 16), (sL 35)]), (9, [1], [((.ofNat 200), []), (sL 11), (sL 36)])]), symsL 37 0, some ((.ofNat 2174), []), 0, 0)
noncomputable def c144_0_p80 : PE := (41, [2, 3, 0, 1], (37, (zt3 [qtN 34 1 4]), [((.ofNat 1), [(20, (.negSucc 0)), (21, (.negSucc 0)), (22, (.negSucc 0)), (23, (.negSucc 0))])], [qvK (.ofNat 1), qvK (.ofNat 4), qvR 0, qvS 34], zh50, [(2, [1], []), (1, [1], []), (9, [1], [((.ofNat 440), []), (sL 16), (sL 35)]), (9, [1], [((.ofNat 200), []), (sL 11), (sL 36)])]), symsL 37 0, some ((.ofNat 2209), []), 0, 0)
noncomputable def c144_0_p81 : PE := (41, [2, 3, 0, 1], (37, (zt3 [qtN 34 1 4]), [((.ofNat 1), [(20, (.negSucc 0)), (21, (.negSucc 0)), (22, (.negSucc 0)), (23, (.negSucc 0))])], [qvK (.ofNat 1), qvK (.ofNat 40), qvR 0, qvS 34], zh51, [(2, [1], []), (1, [1], []), (9, [1], [((.ofNat 440), []), (sL 16), (sL 35)]), (9, [1], [((.ofNat 200), []), (sL 11), (sL 36)])]), symsL 37 0, some ((.ofNat 2173), []), 0, 0)
noncomputable def c144_0_p82 : PE := (41, [2, 3, 0, 1], (37, (zt3 [qtN 34 1 4]), [((.ofNat 1), [(20, (.negSucc 0)), (21, (.negSucc 0)), (22, (.negSucc 0)), (23, (.negSucc 0))])], [qvK (.ofNat 1), qvK (.ofNat 5), qvR 0, qvS 34], zh50, [(2, [1], []), (1, [1], []), (9, [1], [((.ofNat 440), []), (sL 16), (sL 35)]), (9, [1], [((.ofNat 200), []), (sL 11), (sL 36)])]), symsL 37 0, some ((.ofNat 2208), []), 0, 0)
noncomputable def c144_0_p83 : PE := (41, [2, 3, 0, 1], (37, (zt3 [qtN 34 1 4]), [((.ofNat 1), [(20, (.negSucc 0)), (21, (.negSucc 0)), (22, (.negSucc 0)), (23, (.negSucc 0))])], [qvK (.ofNat 1), qvK (.ofNat 6), qvR 0, qvS 34], zh50, [(2, [1], []), (1, [1], []), (9, [1], [((.ofNat 440), []), (sL 16), (sL 35)]), (9, [1], [((.ofNat 200), []), (sL 11), (sL 36)])]), symsL 37 0, some ((.ofNat 2207), []), 0, 0)
noncomputable def c144_0_p84 : PE := (41, [2, 3, 0, 1], (37, (zt3 [qtN 34 1 4]), [((.ofNat 1), [(20, (.negSucc 0)), (21, (.negSucc 0)), (22, (.negSucc 0)), (23, (.negSucc 0))])], [qvK (.ofNat 1), qvK (.ofNat 7), qvR 0, qvS 34], zh50, [(2, [1], []), (1, [1], []), (9, [1], [((.ofNat 440), []), (sL 16), (sL 35)]), (9, [1], [((.ofNat 200), []), (sL 11), (sL 36)])]), symsL 37 0, some ((.ofNat 2206), []), 0, 0)
noncomputable def c144_0_p85 : PE := (41, [2, 3, 0, 1], (37, (zt3 [qtN 34 1 4]), [((.ofNat 1), [(20, (.negSucc 0)), (21, (.negSucc 0)), (22, (.negSucc 0)), (23, (.negSucc 0))])], [qvK (.ofNat 1), qvK (.ofNat 8), qvR 0, qvS 34], zh50, [(2, [1], []), (1, [1], []), (9, [1], [((.ofNat 440), []), (sL 16), (sL 35)]), (9, [1], [((.ofNat 200), []), (sL 11), (sL 36)])]), symsL 37 0, some ((.ofNat 2205), []), 0, 0)
noncomputable def c144_0_p86 : PE := (41, [2, 3, 0, 1], (37, (zt3 [qtN 34 1 4]), [((.ofNat 1), [(20, (.negSucc 0)), (21, (.negSucc 0)), (22, (.negSucc 0)), (23, (.negSucc 0))])], [qvK (.ofNat 1), qvK (.ofNat 9), qvR 0, qvS 34], zh50, [(2, [1], []), (1, [1], []), (9, [1], [((.ofNat 440), []), (sL 16), (sL 35)]), (9, [1], [((.ofNat 200), []), (sL 11), (sL 36)])]), symsL 37 0, some ((.ofNat 2204), []), 0, 0)
noncomputable def c144_0_p87 : PE := (41, [2, 3, 0, 1], (37, (zt3 [qtN 34 1 4]), [((.ofNat 1), [(20, (.negSucc 0)), (21, (.negSucc 0)), (22, (.negSucc 0)), (23, (.negSucc 0))])], [qvK (.ofNat 2), qvK (.ofNat 0), qvR 0, qvS 34], zh51, [(2, [1], []), (1, [1], []), (9, [1], [((.ofNat 440), []), (sL 16), (sL 35)]), (9, [1], [((.ofNat 200), []), (sL 11), (sL 36)])]), symsL 37 0, some ((.ofNat 2049), []), 0, 0)
noncomputable def c144_0_p88 : PE := (41, [2, 3, 0, 1], (37, (zt3 [qtN 34 1 4]), [((.ofNat 1), [(20, (.negSucc 0)), (21, (.negSucc 0)), (22, (.negSucc 0)), (23, (.negSucc 0))])], [qvK (.ofNat 2), qvK (.ofNat 1), qvR 0, qvS 34], zh51, [(2, [1], []), (1, [1], []), (9, [1], [((.ofNat 440), []), (sL 16), (sL 35)]), (9, [1], [((.ofNat 200), []), (sL 11), (sL 36)])]), symsL 37 0, some ((.ofNat 2048), []), 0, 0)
noncomputable def c144_0_p89 : PE := (41, [2, 3, 0, 1], (37, (zt3 [qtN 34 1 4]), [((.ofNat 1), [(20, (.negSucc 0)), (21, (.negSucc 0)), (22, (.negSucc 0)), (23, (.negSucc 0))])], [qvK (.ofNat 2), qvK (.ofNat 10), qvR 0, qvS 34], zh51, [(2, [1], []), (1, [1], []), (9, [1], [((.ofNat 440), []), (sL 16), (sL 35)]), (9, [1], [((.ofNat 200), []), (sL 11), (sL 36)])]), symsL 37 0, some ((.ofNat 2039), []), 0, 0)
noncomputable def c144_0_p90 : PE := (41, [2, 3, 0, 1], (37, (zt3 [qtN 34 1 4]), [((.ofNat 1), [(20, (.negSucc 0)), (21, (.negSucc 0)), (22, (.negSucc 0)), (23, (.negSucc 0))])], [qvK (.ofNat 2), qvK (.ofNat 11), qvR 0, qvS 34], zh51, [(2, [1], []), (1, [1], []), (9, [1], [((.ofNat 440), []), (sL 16), (sL 35)]), (9, [1], [((.ofNat 200), []), (sL 11), (sL 36)])]), symsL 37 0, some ((.ofNat 2038), []), 0, 0)
noncomputable def c144_0_p91 : PE := (41, [2, 3, 0, 1], (37, (zt3 [qtN 34 1 4]), [((.ofNat 1), [(20, (.negSucc 0)), (21, (.negSucc 0)), (22, (.negSucc 0)), (23, (.negSucc 0))])], [qvK (.ofNat 2), qvK (.ofNat 12), qvR 0, qvS 34], zh51, [(2, [1], []), (1, [1], []), (9, [1], [((.ofNat 440), []), (sL 16), (sL 35)]), (9, [1], [((.ofNat 200), []), (sL 11), (sL 36)])]), symsL 37 0, some ((.ofNat 2037), []), 0, 0)
noncomputable def c144_0_p92 : PE := (41, [2, 3, 0, 1], (37, (zt3 [qtN 34 1 4]), [((.ofNat 1), [(20, (.negSucc 0)), (21, (.negSucc 0)), (22, (.negSucc 0)), (23, (.negSucc 0))])], [qvK (.ofNat 2), qvK (.ofNat 13), qvR 0, qvS 34], zh52, [(2, [1], []), (1, [1], []), (9, [1], [((.ofNat 440), []), (sL 16), (sL 35)]), (9, [1], [((.ofNat 200), []), (sL 11), (sL 36)])]), symsL 37 0, some ((.ofNat 2036), []), 0, 0)
noncomputable def c144_0_p93 : PE := (41, [2, 3, 0, 1], (37, (zt3 [qtN 34 1 4]), [((.ofNat 1), [(20, (.negSucc 0)), (21, (.negSucc 0)), (22, (.negSucc 0)), (23, (.negSucc 0))])], [qvK (.ofNat 2), qvK (.ofNat 14), qvR 0, qvS 34], zh52, [(2, [1], []), (1, [1], []), (9, [1], [((.ofNat 440), []), (sL 16), (sL 35)]), (9, [1], [((.ofNat 200), []), (sL 11), (sL 36)])]), symsL 37 0, some ((.ofNat 2035), []), 0, 0)
noncomputable def c144_0_p94 : PE := (41, [2, 3, 0, 1], (37, (zt3 [qtN 34 1 4]), [((.ofNat 1), [(20, (.negSucc 0)), (21, (.negSucc 0)), (22, (.negSucc 0)), (23, (.negSucc 0))])], [qvK (.ofNat 2), qvK (.ofNat 15), qvR 0, qvS 34], zh52, [(2, [1], []), (1, [1], []), (9, [1], [((.ofNat 440), []), (sL 16), (sL 35)]), (9, [1], [((.ofNat 200), []), (sL 11), (sL 36)])]), symsL 37 0, some ((.ofNat 2034), []), 0, 0)
noncomputable def c144_0_p95 : PE := (41, [2, 3, 0, 1], (37, (zt3 [qtN 34 1 4]), [((.ofNat 1), [(20, (.negSucc 0)), (21, (.negSucc 0)), (22, (.negSucc 0)), (23, (.negSucc 0))])], [qvK (.ofNat 2), qvK (.ofNat 16), qvR 0, qvS 34], zh52, [(2, [1], []), (1, [1], []), (9, [1], [((.ofNat 440), []), (sL 16), (sL 35)]), (9, [1], [((.ofNat 200), []), (sL 11), (sL 36)])]), symsL 37 0, some ((.ofNat 2033), []), 0, 0)
noncomputable def c144_0_p96 : PE := (41, [2, 3, 0, 1], (37, (zt3 [qtN 34 1 4]), [((.ofNat 1), [(20, (.negSucc 0)), (21, (.negSucc 0)), (22, (.negSucc 0)), (23, (.negSucc 0))])], [qvK (.ofNat 2), qvK (.ofNat 17), qvR 0, qvS 34], zh52, [(2, [1], []), (1, [1], []), (9, [1], [((.ofNat 440), []), (sL 16), (sL 35)]), (9, [1], [((.ofNat 200), []), (sL 11), (sL 36)])]), symsL 37 0, some ((.ofNat 2032), []), 0, 0)
noncomputable def c144_0_p97 : PE := (41, [2, 3, 0, 1], (37, (zt3 [qtN 34 1 4]), [((.ofNat 1), [(20, (.negSucc 0)), (21, (.negSucc 0)), (22, (.negSucc 0)), (23, (.negSucc 0))])], [qvK (.ofNat 2), qvK (.ofNat 18), qvR 0, qvS 34], zh52, [(2, [1], []), (1, [1], []), (9, [1], [((.ofNat 440), []), (sL 16), (sL 35)]), (9, [1], [((.ofNat 200), []), (sL 11), (sL 36)])]), symsL 37 0, some ((.ofNat 2031), []), 0, 0)
noncomputable def c144_0_p98 : PE := (41, [2, 3, 0, 1], (37, (zt3 [qtN 34 1 4]), [((.ofNat 1), [(20, (.negSucc 0)), (21, (.negSucc 0)), (22, (.negSucc 0)), (23, (.negSucc 0))])], [qvK (.ofNat 2), qvK (.ofNat 19), qvR 0, qvS 34], zh52, [(2, [1], []), (1, [1], []), (9, [1], [((.ofNat 440), []), (sL 16), (sL 35)]), (9, [1], [((.ofNat 200), []), (sL 11), (sL 36)])]), symsL 37 0, some ((.ofNat 2030), []), 0, 0)
noncomputable def c144_0_p99 : PE := (41, [2, 3, 0, 1], (37, (zt3 [qtN 34 1 4]), [((.ofNat 1), [(20, (.negSucc 0)), (21, (.negSucc 0)), (22, (.negSucc 0)), (23, (.negSucc 0))])], [qvK (.ofNat 2), qvK (.ofNat 2), qvR 0, qvS 34], zh51, [(2, [1], []), (1, [1], []), (9, [1], [((.ofNat 440), []), (sL 16), (sL 35)]), (9, [1], [((.ofNat 200), []), (sL 11), (sL 36)])]), symsL 37 0, some ((.ofNat 2047), []), 0, 0)
noncomputable def c144_0_p100 : PE := (41, [2, 3, 0, 1], (37, (zt3 [qtN 34 1 4]), [((.ofNat 1), [(20, (.negSucc 0)), (21, (.negSucc 0)), (22, (.negSucc 0)), (23, (.negSucc 0))])], [qvK (.ofNat 2), qvK (.ofNat 20), qvR 0, qvS 34], zh52, [(2, [1], []), (1, [1], []), (9, [1], [((.ofNat 440), []), (sL 16), (sL 35)]), (9, [1], [((.ofNat 200), []), (sL 11), (sL 36)])]), symsL 37 0, some ((.ofNat 2029), []), 0, 0)
noncomputable def c144_0_p101 : PE := (41, [2, 3, 0, 1], (37, (zt3 [qtN 34 1 4]), [((.ofNat 1), [(20, (.negSucc 0)), (21, (.negSucc 0)), (22, (.negSucc 0)), (23, (.negSucc 0))])], [qvK (.ofNat 2), qvK (.ofNat 21), qvR 0, qvS 34], zh52, [(2, [1], []), (1, [1], []), (9, [1], [((.ofNat 440), []), (sL 16), (sL 35)]), (9, [1], [((.ofNat 200), []), (sL 11), (sL 36)])]), symsL 37 0, some ((.ofNat 2028), []), 0, 0)
noncomputable def c144_0_p102 : PE := (41, [2, 3, 0, 1], (37, (zt3 [qtN 34 1 4]), [((.ofNat 1), [(20, (.negSucc 0)), (21, (.negSucc 0)), (22, (.negSucc 0)), (23, (.negSucc 0))])], [qvK (.ofNat 2), qvK (.ofNat 22), qvR 0, qvS 34], zh52, [(2, [1], []), (1, [1], []), (9, [1], [((.ofNat 440), []), (sL 16), (sL 35)]), (9, [1], [((.ofNat 200), []), (sL 11), (sL 36)])]), symsL 37 0, some ((.ofNat 2027), []), 0, 0)
noncomputable def c144_0_p103 : PE := (41, [2, 3, 0, 1], (37, (zt3 [qtN 34 1 4]), [((.ofNat 1), [(20, (.negSucc 0)), (21, (.negSucc 0)), (22, (.negSucc 0)), (23, (.negSucc 0))])], [qvK (.ofNat 2), qvK (.ofNat 23), qvR 0, qvS 34], zh52, [(2, [1], []), (1, [1], []), (9, [1], [((.ofNat 440), []), (sL 16), (sL 35)]), (9, [1], [((.ofNat 200), []), (sL 11), (sL 36)])]), symsL 37 0, some ((.ofNat 2026), []), 0, 0)
noncomputable def c144_0_p104 : PE := (41, [2, 3, 0, 1], (37, (zt3 [qtN 34 1 4]), [((.ofNat 1), [(20, (.negSucc 0)), (21, (.negSucc 0)), (22, (.negSucc 0)), (23, (.negSucc 0))])], [qvK (.ofNat 2), qvK (.ofNat 24), qvR 0, qvS 34], zh52, [(2, [1], []), (1, [1], []), (9, [1], [((.ofNat 440), []), (sL 16), (sL 35)]), (9, [1], [((.ofNat 200), []), (sL 11), (sL 36)])]), symsL 37 0, some ((.ofNat 2025), []), 0, 0)
noncomputable def c144_0_p105 : PE := (41, [2, 3, 0, 1], (37, (zt3 [qtN 34 1 4]), [((.ofNat 1), [(20, (.negSucc 0)), (21, (.negSucc 0)), (22, (.negSucc 0)), (23, (.negSucc 0))])], [qvK (.ofNat 2), qvK (.ofNat 25), qvR 0, qvS 34], zh52, [(2, [1], []), (1, [1], []), (9, [1], [((.ofNat 440), []), (sL 16), (sL 35)]), (9, [1], [((.ofNat 200), []), (sL 11), (sL 36)])]), symsL 37 0, some ((.ofNat 2024), []), 0, 0)
noncomputable def c144_0_p106 : PE := (41, [2, 3, 0, 1], (37, (zt3 [qtN 34 1 4]), [((.ofNat 1), [(20, (.negSucc 0)), (21, (.negSucc 0)), (22, (.negSucc 0)), (23, (.negSucc 0))])], [qvK (.ofNat 2), qvK (.ofNat 26), qvR 0, qvS 34], zh52, [(2, [1], []), (1, [1], []), (9, [1], [((.ofNat 440), []), (sL 16), (sL 35)]), (9, [1], [((.ofNat 200), []), (sL 11), (sL 36)])]), symsL 37 0, some ((.ofNat 2023), []), 0, 0)
noncomputable def c144_0_p107 : PE := (41, [2, 3, 0, 1], (37, (zt3 [qtN 34 1 4]), [((.ofNat 1), [(20, (.negSucc 0)), (21, (.negSucc 0)), (22, (.negSucc 0)), (23, (.negSucc 0))])], [qvK (.ofNat 2), qvK (.ofNat 27), qvR 0, qvS 34], zh52, [(2, [1], []), (1, [1], []), (9, [1], [((.ofNat 440), []), (sL 16), (sL 35)]), (9, [1], [((.ofNat 200), []), (sL 11), (sL 36)])]), symsL 37 0, some ((.ofNat 2022), []), 0, 0)
noncomputable def c144_0_p108 : PE := (41, [2, 3, 0, 1], (37, (zt3 [qtN 34 1 4]), [((.ofNat 1), [(20, (.negSucc 0)), (21, (.negSucc 0)), (22, (.negSucc 0)), (23, (.negSucc 0))])], [qvK (.ofNat 2), qvK (.ofNat 28), qvR 0, qvS 34], zh52, [(2, [1], []), (1, [1], []), (9, [1], [((.ofNat 440), []), (sL 16), (sL 35)]), (9, [1], [((.ofNat 200), []), (sL 11), (sL 36)])]), symsL 37 0, some ((.ofNat 2021), []), 0, 0)
noncomputable def c144_0_p109 : PE := (41, [2, 3, 0, 1], (37, (zt3 [qtN 34 1 4]), [((.ofNat 1), [(20, (.negSucc 0)), (21, (.negSucc 0)), (22, (.negSucc 0)), (23, (.negSucc 0))])], [qvK (.ofNat 2), qvK (.ofNat 29), qvR 0, qvS 34], zh52, [(2, [1], []), (1, [1], []), (9, [1], [((.ofNat 440), []), (sL 16), (sL 35)]), (9, [1], [((.ofNat 200), []), (sL 11), (sL 36)])]), symsL 37 0, some ((.ofNat 2020), []), 0, 0)
noncomputable def c144_0_p110 : PE := (41, [2, 3, 0, 1], (37, (zt3 [qtN 34 1 4]), [((.ofNat 1), [(20, (.negSucc 0)), (21, (.negSucc 0)), (22, (.negSucc 0)), (23, (.negSucc 0))])], [qvK (.ofNat 2), qvK (.ofNat 3), qvR 0, qvS 34], zh51, [(2, [1], []), (1, [1], []), (9, [1], [((.ofNat 440), []), (sL 16), (sL 35)]), (9, [1], [((.ofNat 200), []), (sL 11), (sL 36)])]), symsL 37 0, some ((.ofNat 2046), []), 0, 0)
noncomputable def c144_0_p111 : PE := (41, [2, 3, 0, 1], (37, (zt3 [qtN 34 1 4]), [((.ofNat 1), [(20, (.negSucc 0)), (21, (.negSucc 0)), (22, (.negSucc 0)), (23, (.negSucc 0))])], [qvK (.ofNat 2), qvK (.ofNat 30), qvR 0, qvS 34], zh52, [(2, [1], []), (1, [1], []), (9, [1], [((.ofNat 440), []), (sL 16), (sL 35)]), (9, [1], [((.ofNat 200), []), (sL 11), (sL 36)])]), symsL 37 0, some ((.ofNat 2019), []), 0, 0)
noncomputable def c144_0_p112 : PE := (41, [2, 3, 0, 1], (37, (zt3 [qtN 34 1 4]), [((.ofNat 1), [(20, (.negSucc 0)), (21, (.negSucc 0)), (22, (.negSucc 0)), (23, (.negSucc 0))])], [qvK (.ofNat 2), qvK (.ofNat 31), qvR 0, qvS 34], zh52, [(2, [1], []), (1, [1], []), (9, [1], [((.ofNat 440), []), (sL 16), (sL 35)]), (9, [1], [((.ofNat 200), []), (sL 11), (sL 36)])]), symsL 37 0, some ((.ofNat 2018), []), 0, 0)
noncomputable def c144_0_p113 : PE := (41, [2, 3, 0, 1], (37, (zt3 [qtN 34 1 4]), [((.ofNat 1), [(20, (.negSucc 0)), (21, (.negSucc 0)), (22, (.negSucc 0)), (23, (.negSucc 0))])], [qvK (.ofNat 2), qvK (.ofNat 32), qvR 0, qvS 34], zh52, [(2, [1], []), (1, [1], []), (9, [1], [((.ofNat 440), []), (sL 16), (sL 35)]), (9, [1], [((.ofNat 200), []), (sL 11), (sL 36)])]), symsL 37 0, some ((.ofNat 2017), []), 0, 0)
noncomputable def c144_0_p114 : PE := (41, [2, 3, 0, 1], (37, (zt3 [qtN 34 1 4]), [((.ofNat 1), [(20, (.negSucc 0)), (21, (.negSucc 0)), (22, (.negSucc 0)), (23, (.negSucc 0))])], [qvK (.ofNat 2), qvK (.ofNat 33), qvR 0, qvS 34], zh52, [(2, [1], []), (1, [1], []), (9, [1], [((.ofNat 440), []), (sL 16), (sL 35)]), (9, [1], [((.ofNat 200), []), (sL 11), (sL 36)])]), symsL 37 0, some ((.ofNat 2016), []), 0, 0)
noncomputable def c144_0_p115 : PE := (41, [2, 3, 0, 1], (37, (zt3 [qtN 34 1 4]), [((.ofNat 1), [(20, (.negSucc 0)), (21, (.negSucc 0)), (22, (.negSucc 0)), (23, (.negSucc 0))])], [qvK (.ofNat 2), qvK (.ofNat 34), qvR 0, qvS 34], zh52, [(2, [1], []), (1, [1], []), (9, [1], [((.ofNat 440), []), (sL 16), (sL 35)]), (9, [1], [((.ofNat 200), []), (sL 11), (sL 36)])]), symsL 37 0, some ((.ofNat 2015), []), 0, 0)
noncomputable def c144_0_p116 : PE := (41, [2, 3, 0, 1], (37, (zt3 [qtN 34 1 4]), [((.ofNat 1), [(20, (.negSucc 0)), (21, (.negSucc 0)), (22, (.negSucc 0)), (23, (.negSucc 0))])], [qvK (.ofNat 2), qvK (.ofNat 35), qvR 0, qvS 34], zh52, [(2, [1], []), (1, [1], []), (9, [1], [((.ofNat 440), []), (sL 16), (sL 35)]), (9, [1], [((.ofNat 200), []), (sL 11), (sL 36)])]), symsL 37 0, some ((.ofNat 2014), []), 0, 0)
noncomputable def c144_0_p117 : PE := (41, [2, 3, 0, 1], (37, (zt3 [qtN 34 1 4]), [((.ofNat 1), [(20, (.negSucc 0)), (21, (.negSucc 0)), (22, (.negSucc 0)), (23, (.negSucc 0))])], [qvK (.ofNat 2), qvK (.ofNat 36), qvR 0, qvS 34], zh52, [(2, [1], []), (1, [1], []), (9, [1], [((.ofNat 440), []), (sL 16), (sL 35)]), (9, [1], [((.ofNat 200), []), (sL 11), (sL 36)])]), symsL 37 0, some ((.ofNat 2013), []), 0, 0)
noncomputable def c144_0_p118 : PE := (41, [2, 3, 0, 1], (37, (zt3 [qtN 34 1 4]), [((.ofNat 1), [(20, (.negSucc 0)), (21, (.negSucc 0)), (22, (.negSucc 0)), (23, (.negSucc 0))])], [qvK (.ofNat 2), qvK (.ofNat 37), qvR 0, qvS 34], zh52, [(2, [1], []), (1, [1], []), (9, [1], [((.ofNat 440), []), (sL 16), (sL 35)]), (9, [1], [((.ofNat 200), []), (sL 11), (sL 36)])]), symsL 37 0, some ((.ofNat 2012), []), 0, 0)
noncomputable def c144_0_p119 : PE := (41, [2, 3, 0, 1], (37, (zt3 [qtN 34 1 4]), [((.ofNat 1), [(20, (.negSucc 0)), (21, (.negSucc 0)), (22, (.negSucc 0)), (23, (.negSucc 0))])], [qvK (.ofNat 2), qvK (.ofNat 38), qvR 0, qvS 34], zh52, [(2, [1], []), (1, [1], []), (9, [1], [((.ofNat 440), []), (sL 16), (sL 35)]), (9, [1], [((.ofNat 200), []), (sL 11), (sL 36)])]), symsL 37 0, some ((.ofNat 2011), []), 0, 0)
noncomputable def c144_0_p120 : PE := (41, [2, 3, 0, 1], (37, (zt3 [qtN 34 1 4]), [((.ofNat 1), [(20, (.negSucc 0)), (21, (.negSucc 0)), (22, (.negSucc 0)), (23, (.negSucc 0))])], [qvK (.ofNat 2), qvK (.ofNat 39), qvR 0, qvS 34], zh52, [(2, [1], []), (1, [1], []), (9, [1], [((.ofNat 440), []), (sL 16), (sL 35)]), (9, [1], [((.ofNat 200), []), (sL 11), (sL 36)])]), symsL 37 0, some ((.ofNat 2010), []), 0, 0)
noncomputable def c144_0_p121 : PE := (41, [2, 3, 0, 1], (37, (zt3 [qtN 34 1 4]), [((.ofNat 1), [(20, (.negSucc 0)), (21, (.negSucc 0)), (22, (.negSucc 0)), (23, (.negSucc 0))])], [qvK (.ofNat 2), qvK (.ofNat 4), qvR 0, qvS 34], zh51, [(2, [1], []), (1, [1], []), (9, [1], [((.ofNat 440), []), (sL 16), (sL 35)]), (9, [1], [((.ofNat 200), []), (sL 11), (sL 36)])]), symsL 37 0, some ((.ofNat 2045), []), 0, 0)
noncomputable def c144_0_p122 : PE := (41, [2, 3, 0, 1], (37, (zt3 [qtN 34 1 4]), [((.ofNat 1), [(20, (.negSucc 0)), (21, (.negSucc 0)), (22, (.negSucc 0)), (23, (.negSucc 0))])], [qvK (.ofNat 2), qvK (.ofNat 40), qvR 0, qvS 34], zh52, [(2, [1], []), (1, [1], []), (9, [1], [((.ofNat 440), []), (sL 16), (sL 35)]), (9, [1], [((.ofNat 200), []), (sL 11), (sL 36)])]), symsL 37 0, some ((.ofNat 2009), []), 0, 0)
noncomputable def c144_0_p123 : PE := (41, [2, 3, 0, 1], (37, (zt3 [qtN 34 1 4]), [((.ofNat 1), [(20, (.negSucc 0)), (21, (.negSucc 0)), (22, (.negSucc 0)), (23, (.negSucc 0))])], [qvK (.ofNat 2), qvK (.ofNat 5), qvR 0, qvS 34], zh51, [(2, [1], []), (1, [1], []), (9, [1], [((.ofNat 440), []), (sL 16), (sL 35)]), (9, [1], [((.ofNat 200), []), (sL 11), (sL 36)])]), symsL 37 0, some ((.ofNat 2044), []), 0, 0)
noncomputable def c144_0_p124 : PE := (41, [2, 3, 0, 1], (37, (zt3 [qtN 34 1 4]), [((.ofNat 1), [(20, (.negSucc 0)), (21, (.negSucc 0)), (22, (.negSucc 0)), (23, (.negSucc 0))])], [qvK (.ofNat 2), qvK (.ofNat 6), qvR 0, qvS 34], zh51, [(2, [1], []), (1, [1], []), (9, [1], [((.ofNat 440), []), (sL 16), (sL 35)]), (9, [1], [((.ofNat 200), []), (sL 11), (sL 36)])]), symsL 37 0, some ((.ofNat 2043), []), 0, 0)
noncomputable def c144_0_p125 : PE := (41, [2, 3, 0, 1], (37, (zt3 [qtN 34 1 4]), [((.ofNat 1), [(20, (.negSucc 0)), (21, (.negSucc 0)), (22, (.negSucc 0)), (23, (.negSucc 0))])], [qvK (.ofNat 2), qvK (.ofNat 7), qvR 0, qvS 34], zh51, [(2, [1], []), (1, [1], []), (9, [1], [((.ofNat 440), []), (sL 16), (sL 35)]), (9, [1], [((.ofNat 200), []), (sL 11), (sL 36)])]), symsL 37 0, some ((.ofNat 2042), []), 0, 0)
noncomputable def c144_0_p126 : PE := (41, [2, 3, 0, 1], (37, (zt3 [qtN 34 1 4]), [((.ofNat 1), [(20, (.negSucc 0)), (21, (.negSucc 0)), (22, (.negSucc 0)), (23, (.negSucc 0))])], [qvK (.ofNat 2), qvK (.ofNat 8), qvR 0, qvS 34], zh51, [(2, [1], []), (1, [1], []), (9, [1], [((.ofNat 440), []), (sL 16), (sL 35)]), (9, [1], [((.ofNat 200), []), (sL 11), (sL 36)])]), symsL 37 0, some ((.ofNat 2041), []), 0, 0)
noncomputable def c144_0_p127 : PE := (41, [2, 3, 0, 1], (37, (zt3 [qtN 34 1 4]), [((.ofNat 1), [(20, (.negSucc 0)), (21, (.negSucc 0)), (22, (.negSucc 0)), (23, (.negSucc 0))])], [qvK (.ofNat 2), qvK (.ofNat 9), qvR 0, qvS 34], zh51, [(2, [1], []), (1, [1], []), (9, [1], [((.ofNat 440), []), (sL 16), (sL 35)]), (9, [1], [((.ofNat 200), []), (sL 11), (sL 36)])]), symsL 37 0, some ((.ofNat 2040), []), 0, 0)
noncomputable def c144_0_p128 : PE := (41, [2, 3, 0, 1], (37, (zt3 [qtN 34 1 4]), [((.ofNat 1), [(20, (.negSucc 0)), (21, (.negSucc 0)), (22, (.negSucc 0)), (23, (.negSucc 0))])], [qvK (.ofNat 3), qvK (.ofNat 0), qvR 0, qvS 34], zh52, [(2, [1], []), (1, [1], []), (9, [1], [((.ofNat 440), []), (sL 16), (sL 35)]), (9, [1], [((.ofNat 200), []), (sL 11), (sL 36)])]), symsL 37 0, some ((.ofNat 1885), []), 0, 0)
noncomputable def c144_0_p129 : PE := (41, [2, 3, 0, 1], (37, (zt3 [qtN 34 1 4]), [((.ofNat 1), [(20, (.negSucc 0)), (21, (.negSucc 0)), (22, (.negSucc 0)), (23, (.negSucc 0))])], [qvK (.ofNat 3), qvK (.ofNat 1), qvR 0, qvS 34], zh52, [(2, [1], []), (1, [1], []), (9, [1], [((.ofNat 440), []), (sL 16), (sL 35)]), (9, [1], [((.ofNat 200), []), (sL 11), (sL 36)])]), symsL 37 0, some ((.ofNat 1884), []), 0, 0)
noncomputable def c144_0_p130 : PE := (41, [2, 3, 0, 1], (37, (zt3 [qtN 34 1 4]), [((.ofNat 1), [(20, (.negSucc 0)), (21, (.negSucc 0)), (22, (.negSucc 0)), (23, (.negSucc 0))])], [qvK (.ofNat 3), qvK (.ofNat 10), qvR 0, qvS 34], zh52, [(2, [1], []), (1, [1], []), (9, [1], [((.ofNat 440), []), (sL 16), (sL 35)]), (9, [1], [((.ofNat 200), []), (sL 11), (sL 36)])]), symsL 37 0, some ((.ofNat 1875), []), 0, 0)
noncomputable def c144_0_p131 : PE := (41, [2, 3, 0, 1], (37, (zt3 [qtN 34 1 4]), [((.ofNat 1), [(20, (.negSucc 0)), (21, (.negSucc 0)), (22, (.negSucc 0)), (23, (.negSucc 0))])], [qvK (.ofNat 3), qvK (.ofNat 11), qvR 0, qvS 34], zh52, [(2, [1], []), (1, [1], []), (9, [1], [((.ofNat 440), []), (sL 16), (sL 35)]), (9, [1], [((.ofNat 200), []), (sL 11), (sL 36)])]), symsL 37 0, some ((.ofNat 1874), []), 0, 0)
noncomputable def c144_0_p132 : PE := (41, [2, 3, 0, 1], (37, (zt3 [qtN 34 1 4]), [((.ofNat 1), [(20, (.negSucc 0)), (21, (.negSucc 0)), (22, (.negSucc 0)), (23, (.negSucc 0))])], [qvK (.ofNat 3), qvK (.ofNat 12), qvR 0, qvS 34], zh52, [(2, [1], []), (1, [1], []), (9, [1], [((.ofNat 440), []), (sL 16), (sL 35)]), (9, [1], [((.ofNat 200), []), (sL 11), (sL 36)])]), symsL 37 0, some ((.ofNat 1873), []), 0, 0)
noncomputable def c144_0_p133 : PE := (41, [2, 3, 0, 1], (37, (zt3 [qtN 34 1 4]), [((.ofNat 1), [(20, (.negSucc 0)), (21, (.negSucc 0)), (22, (.negSucc 0)), (23, (.negSucc 0))])], [qvK (.ofNat 3), qvK (.ofNat 13), qvR 0, qvS 34], zh53, [(2, [1], []), (1, [1], []), (9, [1], [((.ofNat 440), []), (sL 16), (sL 35)]), (9, [1], [((.ofNat 200), []), (sL 11), (sL 36)])]), symsL 37 0, some ((.ofNat 1872), []), 0, 0)
noncomputable def c144_0_p134 : PE := (41, [2, 3, 0, 1], (37, (zt3 [qtN 34 1 4]), [((.ofNat 1), [(20, (.negSucc 0)), (21, (.negSucc 0)), (22, (.negSucc 0)), (23, (.negSucc 0))])], [qvK (.ofNat 3), qvK (.ofNat 14), qvR 0, qvS 34], zh53, [(2, [1], []), (1, [1], []), (9, [1], [((.ofNat 440), []), (sL 16), (sL 35)]), (9, [1], [((.ofNat 200), []), (sL 11), (sL 36)])]), symsL 37 0, some ((.ofNat 1871), []), 0, 0)
noncomputable def c144_0_p135 : PE := (41, [2, 3, 0, 1], (37, (zt3 [qtN 34 1 4]), [((.ofNat 1), [(20, (.negSucc 0)), (21, (.negSucc 0)), (22, (.negSucc 0)), (23, (.negSucc 0))])], [qvK (.ofNat 3), qvK (.ofNat 15), qvR 0, qvS 34], zh53, [(2, [1], []), (1, [1], []), (9, [1], [((.ofNat 440), []), (sL 16), (sL 35)]), (9, [1], [((.ofNat 200), []), (sL 11), (sL 36)])]), symsL 37 0, some ((.ofNat 1870), []), 0, 0)
noncomputable def c144_0_p136 : PE := (41, [2, 3, 0, 1], (37, (zt3 [qtN 34 1 4]), [((.ofNat 1), [(20, (.negSucc 0)), (21, (.negSucc 0)), (22, (.negSucc 0)), (23, (.negSucc 0))])], [qvK (.ofNat 3), qvK (.ofNat 16), qvR 0, qvS 34], zh53, [(2, [1], []), (1, [1], []), (9, [1], [((.ofNat 440), []), (sL 16), (sL 35)]), (9, [1], [((.ofNat 200), []), (sL 11), (sL 36)])]), symsL 37 0, some ((.ofNat 1869), []), 0, 0)
noncomputable def c144_0_p137 : PE := (41, [2, 3, 0, 1], (37, (zt3 [qtN 34 1 4]), [((.ofNat 1), [(20, (.negSucc 0)), (21, (.negSucc 0)), (22, (.negSucc 0)), (23, (.negSucc 0))])], [qvK (.ofNat 3), qvK (.ofNat 17), qvR 0, qvS 34], zh53, [(2, [1], []), (1, [1], []), (9, [1], [((.ofNat 440), []), (sL 16), (sL 35)]), (9, [1], [((.ofNat 200), []), (sL 11), (sL 36)])]), symsL 37 0, some ((.ofNat 1868), []), 0, 0)
noncomputable def c144_0_p138 : PE := (41, [2, 3, 0, 1], (37, (zt3 [qtN 34 1 4]), [((.ofNat 1), [(20, (.negSucc 0)), (21, (.negSucc 0)), (22, (.negSucc 0)), (23, (.negSucc 0))])], [qvK (.ofNat 3), qvK (.ofNat 18), qvR 0, qvS 34], zh53, [(2, [1], []), (1, [1], []), (9, [1], [((.ofNat 440), []), (sL 16), (sL 35)]), (9, [1], [((.ofNat 200), []), (sL 11), (sL 36)])]), symsL 37 0, some ((.ofNat 1867), []), 0, 0)
noncomputable def c144_0_p139 : PE := (41, [2, 3, 0, 1], (37, (zt3 [qtN 34 1 4]), [((.ofNat 1), [(20, (.negSucc 0)), (21, (.negSucc 0)), (22, (.negSucc 0)), (23, (.negSucc 0))])], [qvK (.ofNat 3), qvK (.ofNat 19), qvR 0, qvS 34], zh53, [(2, [1], []), (1, [1], []), (9, [1], [((.ofNat 440), []), (sL 16), (sL 35)]), (9, [1], [((.ofNat 200), []), (sL 11), (sL 36)])]), symsL 37 0, some ((.ofNat 1866), []), 0, 0)
noncomputable def c144_0_p140 : PE := (41, [2, 3, 0, 1], (37, (zt3 [qtN 34 1 4]), [((.ofNat 1), [(20, (.negSucc 0)), (21, (.negSucc 0)), (22, (.negSucc 0)), (23, (.negSucc 0))])], [qvK (.ofNat 3), qvK (.ofNat 2), qvR 0, qvS 34], zh52, [(2, [1], []), (1, [1], []), (9, [1], [((.ofNat 440), []), (sL 16), (sL 35)]), (9, [1], [((.ofNat 200), []), (sL 11), (sL 36)])]), symsL 37 0, some ((.ofNat 1883), []), 0, 0)
noncomputable def c144_0_p141 : PE := (41, [2, 3, 0, 1], (37, (zt3 [qtN 34 1 4]), [((.ofNat 1), [(20, (.negSucc 0)), (21, (.negSucc 0)), (22, (.negSucc 0)), (23, (.negSucc 0))])], [qvK (.ofNat 3), qvK (.ofNat 20), qvR 0, qvS 34], zh53, [(2, [1], []), (1, [1], []), (9, [1], [((.ofNat 440), []), (sL 16), (sL 35)]), (9, [1], [((.ofNat 200), []), (sL 11), (sL 36)])]), symsL 37 0, some ((.ofNat 1865), []), 0, 0)
noncomputable def c144_0_p142 : PE := (41, [2, 3, 0, 1], (37, (zt3 [qtN 34 1 4]), [((.ofNat 1), [(20, (.negSucc 0)), (21, (.negSucc 0)), (22, (.negSucc 0)), (23, (.negSucc 0))])], [qvK (.ofNat 3), qvK (.ofNat 21), qvR 0, qvS 34], zh53, [(2, [1], []), (1, [1], []), (9, [1], [((.ofNat 440), []), (sL 16), (sL 35)]), (9, [1], [((.ofNat 200), []), (sL 11), (sL 36)])]), symsL 37 0, some ((.ofNat 1864), []), 0, 0)
noncomputable def c144_0_p143 : PE := (41, [2, 3, 0, 1], (37, (zt3 [qtN 34 1 4]), [((.ofNat 1), [(20, (.negSucc 0)), (21, (.negSucc 0)), (22, (.negSucc 0)), (23, (.negSucc 0))])], [qvK (.ofNat 3), qvK (.ofNat 22), qvR 0, qvS 34], zh53, [(2, [1], []), (1, [1], []), (9, [1], [((.ofNat 440), []), (sL 16), (sL 35)]), (9, [1], [((.ofNat 200), []), (sL 11), (sL 36)])]), symsL 37 0, some ((.ofNat 1863), []), 0, 0)
noncomputable def c144_0_p144 : PE := (41, [2, 3, 0, 1], (37, (zt3 [qtN 34 1 4]), [((.ofNat 1), [(20, (.negSucc 0)), (21, (.negSucc 0)), (22, (.negSucc 0)), (23, (.negSucc 0))])], [qvK (.ofNat 3), qvK (.ofNat 23), qvR 0, qvS 34], zh53, [(2, [1], []), (1, [1], []), (9, [1], [((.ofNat 440), []), (sL 16), (sL 35)]), (9, [1], [((.ofNat 200), []), (sL 11), (sL 36)])]), symsL 37 0, some ((.ofNat 1862), []), 0, 0)
noncomputable def c144_0_p145 : PE := (41, [2, 3, 0, 1], (37, (zt3 [qtN 34 1 4]), [((.ofNat 1), [(20, (.negSucc 0)), (21, (.negSucc 0)), (22, (.negSucc 0)), (23, (.negSucc 0))])], [qvK (.ofNat 3), qvK (.ofNat 24), qvR 0, qvS 34], zh53, [(2, [1], []), (1, [1], []), (9, [1], [((.ofNat 440), []), (sL 16), (sL 35)]), (9, [1], [((.ofNat 200), []), (sL 11), (sL 36)])]), symsL 37 0, some ((.ofNat 1861), []), 0, 0)
noncomputable def c144_0_p146 : PE := (41, [2, 3, 0, 1], (37, (zt3 [qtN 34 1 4]), [((.ofNat 1), [(20, (.negSucc 0)), (21, (.negSucc 0)), (22, (.negSucc 0)), (23, (.negSucc 0))])], [qvK (.ofNat 3), qvK (.ofNat 25), qvR 0, qvS 34], zh53, [(2, [1], []), (1, [1], []), (9, [1], [((.ofNat 440), []), (sL 16), (sL 35)]), (9, [1], [((.ofNat 200), []), (sL 11), (sL 36)])]), symsL 37 0, some ((.ofNat 1860), []), 0, 0)
noncomputable def c144_0_p147 : PE := (41, [2, 3, 0, 1], (37, (zt3 [qtN 34 1 4]), [((.ofNat 1), [(20, (.negSucc 0)), (21, (.negSucc 0)), (22, (.negSucc 0)), (23, (.negSucc 0))])], [qvK (.ofNat 3), qvK (.ofNat 26), qvR 0, qvS 34], zh53, [(2, [1], []), (1, [1], []), (9, [1], [((.ofNat 440), []), (sL 16), (sL 35)]), (9, [1], [((.ofNat 200), []), (sL 11), (sL 36)])]), symsL 37 0, some ((.ofNat 1859), []), 0, 0)
noncomputable def c144_0_p148 : PE := (41, [2, 3, 0, 1], (37, (zt3 [qtN 34 1 4]), [((.ofNat 1), [(20, (.negSucc 0)), (21, (.negSucc 0)), (22, (.negSucc 0)), (23, (.negSucc 0))])], [qvK (.ofNat 3), qvK (.ofNat 27), qvR 0, qvS 34], zh53, [(2, [1], []), (1, [1], []), (9, [1], [((.ofNat 440), []), (sL 16), (sL 35)]), (9, [1], [((.ofNat 200), []), (sL 11), (sL 36)])]), symsL 37 0, some ((.ofNat 1858), []), 0, 0)
noncomputable def c144_0_p149 : PE := (41, [2, 3, 0, 1], (37, (zt3 [qtN 34 1 4]), [((.ofNat 1), [(20, (.negSucc 0)), (21, (.negSucc 0)), (22, (.negSucc 0)), (23, (.negSucc 0))])], [qvK (.ofNat 3), qvK (.ofNat 28), qvR 0, qvS 34], zh53, [(2, [1], []), (1, [1], []), (9, [1], [((.ofNat 440), []), (sL 16), (sL 35)]), (9, [1], [((.ofNat 200), []), (sL 11), (sL 36)])]), symsL 37 0, some ((.ofNat 1857), []), 0, 0)
noncomputable def c144_0_p150 : PE := (41, [2, 3, 0, 1], (37, (zt3 [qtN 34 1 4]), [((.ofNat 1), [(20, (.negSucc 0)), (21, (.negSucc 0)), (22, (.negSucc 0)), (23, (.negSucc 0))])], [qvK (.ofNat 3), qvK (.ofNat 29), qvR 0, qvS 34], zh53, [(2, [1], []), (1, [1], []), (9, [1], [((.ofNat 440), []), (sL 16), (sL 35)]), (9, [1], [((.ofNat 200), []), (sL 11), (sL 36)])]), symsL 37 0, some ((.ofNat 1856), []), 0, 0)
noncomputable def c144_0_p151 : PE := (41, [2, 3, 0, 1], (37, (zt3 [qtN 34 1 4]), [((.ofNat 1), [(20, (.negSucc 0)), (21, (.negSucc 0)), (22, (.negSucc 0)), (23, (.negSucc 0))])], [qvK (.ofNat 3), qvK (.ofNat 3), qvR 0, qvS 34], zh52, [(2, [1], []), (1, [1], []), (9, [1], [((.ofNat 440), []), (sL 16), (sL 35)]), (9, [1], [((.ofNat 200), []), (sL 11), (sL 36)])]), symsL 37 0, some ((.ofNat 1882), []), 0, 0)
noncomputable def c144_0_p152 : PE := (41, [2, 3, 0, 1], (37, (zt3 [qtN 34 1 4]), [((.ofNat 1), [(20, (.negSucc 0)), (21, (.negSucc 0)), (22, (.negSucc 0)), (23, (.negSucc 0))])], [qvK (.ofNat 3), qvK (.ofNat 30), qvR 0, qvS 34], zh53, [(2, [1], []), (1, [1], []), (9, [1], [((.ofNat 440), []), (sL 16), (sL 35)]), (9, [1], [((.ofNat 200), []), (sL 11), (sL 36)])]), symsL 37 0, some ((.ofNat 1855), []), 0, 0)
noncomputable def c144_0_p153 : PE := (41, [2, 3, 0, 1], (37, (zt3 [qtN 34 1 4]), [((.ofNat 1), [(20, (.negSucc 0)), (21, (.negSucc 0)), (22, (.negSucc 0)), (23, (.negSucc 0))])], [qvK (.ofNat 3), qvK (.ofNat 31), qvR 0, qvS 34], zh53, [(2, [1], []), (1, [1], []), (9, [1], [((.ofNat 440), []), (sL 16), (sL 35)]), (9, [1], [((.ofNat 200), []), (sL 11), (sL 36)])]), symsL 37 0, some ((.ofNat 1854), []), 0, 0)
noncomputable def c144_0_p154 : PE := (41, [2, 3, 0, 1], (37, (zt3 [qtN 34 1 4]), [((.ofNat 1), [(20, (.negSucc 0)), (21, (.negSucc 0)), (22, (.negSucc 0)), (23, (.negSucc 0))])], [qvK (.ofNat 3), qvK (.ofNat 32), qvR 0, qvS 34], zh53, [(2, [1], []), (1, [1], []), (9, [1], [((.ofNat 440), []), (sL 16), (sL 35)]), (9, [1], [((.ofNat 200), []), (sL 11), (sL 36)])]), symsL 37 0, some ((.ofNat 1853), []), 0, 0)
noncomputable def c144_0_p155 : PE := (41, [2, 3, 0, 1], (37, (zt3 [qtN 34 1 4]), [((.ofNat 1), [(20, (.negSucc 0)), (21, (.negSucc 0)), (22, (.negSucc 0)), (23, (.negSucc 0))])], [qvK (.ofNat 3), qvK (.ofNat 33), qvR 0, qvS 34], zh53, [(2, [1], []), (1, [1], []), (9, [1], [((.ofNat 440), []), (sL 16), (sL 35)]), (9, [1], [((.ofNat 200), []), (sL 11), (sL 36)])]), symsL 37 0, some ((.ofNat 1852), []), 0, 0)
noncomputable def c144_0_p156 : PE := (41, [2, 3, 0, 1], (37, (zt3 [qtN 34 1 4]), [((.ofNat 1), [(20, (.negSucc 0)), (21, (.negSucc 0)), (22, (.negSucc 0)), (23, (.negSucc 0))])], [qvK (.ofNat 3), qvK (.ofNat 34), qvR 0, qvS 34], zh53, [(2, [1], []), (1, [1], []), (9, [1], [((.ofNat 440), []), (sL 16), (sL 35)]), (9, [1], [((.ofNat 200), []), (sL 11), (sL 36)])]), symsL 37 0, some ((.ofNat 1851), []), 0, 0)
noncomputable def c144_0_p157 : PE := (41, [2, 3, 0, 1], (37, (zt3 [qtN 34 1 4]), [((.ofNat 1), [(20, (.negSucc 0)), (21, (.negSucc 0)), (22, (.negSucc 0)), (23, (.negSucc 0))])], [qvK (.ofNat 3), qvK (.ofNat 35), qvR 0, qvS 34], zh53, [(2, [1], []), (1, [1], []), (9, [1], [((.ofNat 440), []), (sL 16), (sL 35)]), (9, [1], [((.ofNat 200), []), (sL 11), (sL 36)])]), symsL 37 0, some ((.ofNat 1850), []), 0, 0)
noncomputable def c144_0_p158 : PE := (41, [2, 3, 0, 1], (37, (zt3 [qtN 34 1 4]), [((.ofNat 1), [(20, (.negSucc 0)), (21, (.negSucc 0)), (22, (.negSucc 0)), (23, (.negSucc 0))])], [qvK (.ofNat 3), qvK (.ofNat 36), qvR 0, qvS 34], zh53, [(2, [1], []), (1, [1], []), (9, [1], [((.ofNat 440), []), (sL 16), (sL 35)]), (9, [1], [((.ofNat 200), []), (sL 11), (sL 36)])]), symsL 37 0, some ((.ofNat 1849), []), 0, 0)
noncomputable def c144_0_p159 : PE := (41, [2, 3, 0, 1], (37, (zt3 [qtN 34 1 4]), [((.ofNat 1), [(20, (.negSucc 0)), (21, (.negSucc 0)), (22, (.negSucc 0)), (23, (.negSucc 0))])], [qvK (.ofNat 3), qvK (.ofNat 37), qvR 0, qvS 34], zh53, [(2, [1], []), (1, [1], []), (9, [1], [((.ofNat 440), []), (sL 16), (sL 35)]), (9, [1], [((.ofNat 200), []), (sL 11), (sL 36)])]), symsL 37 0, some ((.ofNat 1848), []), 0, 0)
noncomputable def c144_0_p160 : PE := (41, [2, 3, 0, 1], (37, (zt3 [qtN 34 1 4]), [((.ofNat 1), [(20, (.negSucc 0)), (21, (.negSucc 0)), (22, (.negSucc 0)), (23, (.negSucc 0))])], [qvK (.ofNat 3), qvK (.ofNat 38), qvR 0, qvS 34], zh53, [(2, [1], []), (1, [1], []), (9, [1], [((.ofNat 440), []), (sL 16), (sL 35)]), (9, [1], [((.ofNat 200), []), (sL 11), (sL 36)])]), symsL 37 0, some ((.ofNat 1847), []), 0, 0)
noncomputable def c144_0_p161 : PE := (41, [2, 3, 0, 1], (37, (zt3 [qtN 34 1 4]), [((.ofNat 1), [(20, (.negSucc 0)), (21, (.negSucc 0)), (22, (.negSucc 0)), (23, (.negSucc 0))])], [qvK (.ofNat 3), qvK (.ofNat 39), qvR 0, qvS 34], zh53, [(2, [1], []), (1, [1], []), (9, [1], [((.ofNat 440), []), (sL 16), (sL 35)]), (9, [1], [((.ofNat 200), []), (sL 11), (sL 36)])]), symsL 37 0, some ((.ofNat 1846), []), 0, 0)
noncomputable def c144_0_p162 : PE := (41, [2, 3, 0, 1], (37, (zt3 [qtN 34 1 4]), [((.ofNat 1), [(20, (.negSucc 0)), (21, (.negSucc 0)), (22, (.negSucc 0)), (23, (.negSucc 0))])], [qvK (.ofNat 3), qvK (.ofNat 4), qvR 0, qvS 34], zh52, [(2, [1], []), (1, [1], []), (9, [1], [((.ofNat 440), []), (sL 16), (sL 35)]), (9, [1], [((.ofNat 200), []), (sL 11), (sL 36)])]), symsL 37 0, some ((.ofNat 1881), []), 0, 0)
noncomputable def c144_0_p163 : PE := (41, [2, 3, 0, 1], (37, (zt3 [qtN 34 1 4]), [((.ofNat 1), [(20, (.negSucc 0)), (21, (.negSucc 0)), (22, (.negSucc 0)), (23, (.negSucc 0))])], [qvK (.ofNat 3), qvK (.ofNat 40), qvR 0, qvS 34], zh53, [(2, [1], []), (1, [1], []), (9, [1], [((.ofNat 440), []), (sL 16), (sL 35)]), (9, [1], [((.ofNat 200), []), (sL 11), (sL 36)])]), symsL 37 0, some ((.ofNat 1845), []), 0, 0)
noncomputable def c144_0_p164 : PE := (41, [2, 3, 0, 1], (37, (zt3 [qtN 34 1 4]), [((.ofNat 1), [(20, (.negSucc 0)), (21, (.negSucc 0)), (22, (.negSucc 0)), (23, (.negSucc 0))])], [qvK (.ofNat 3), qvK (.ofNat 5), qvR 0, qvS 34], zh52, [(2, [1], []), (1, [1], []), (9, [1], [((.ofNat 440), []), (sL 16), (sL 35)]), (9, [1], [((.ofNat 200), []), (sL 11), (sL 36)])]), symsL 37 0, some ((.ofNat 1880), []), 0, 0)
noncomputable def c144_0_p165 : PE := (41, [2, 3, 0, 1], (37, (zt3 [qtN 34 1 4]), [((.ofNat 1), [(20, (.negSucc 0)), (21, (.negSucc 0)), (22, (.negSucc 0)), (23, (.negSucc 0))])], [qvK (.ofNat 3), qvK (.ofNat 6), qvR 0, qvS 34], zh52, [(2, [1], []), (1, [1], []), (9, [1], [((.ofNat 440), []), (sL 16), (sL 35)]), (9, [1], [((.ofNat 200), []), (sL 11), (sL 36)])]), symsL 37 0, some ((.ofNat 1879), []), 0, 0)
noncomputable def c144_0_p166 : PE := (41, [2, 3, 0, 1], (37, (zt3 [qtN 34 1 4]), [((.ofNat 1), [(20, (.negSucc 0)), (21, (.negSucc 0)), (22, (.negSucc 0)), (23, (.negSucc 0))])], [qvK (.ofNat 3), qvK (.ofNat 7), qvR 0, qvS 34], zh52, [(2, [1], []), (1, [1], []), (9, [1], [((.ofNat 440), []), (sL 16), (sL 35)]), (9, [1], [((.ofNat 200), []), (sL 11), (sL 36)])]), symsL 37 0, some ((.ofNat 1878), []), 0, 0)
noncomputable def c144_0_p167 : PE := (41, [2, 3, 0, 1], (37, (zt3 [qtN 34 1 4]), [((.ofNat 1), [(20, (.negSucc 0)), (21, (.negSucc 0)), (22, (.negSucc 0)), (23, (.negSucc 0))])], [qvK (.ofNat 3), qvK (.ofNat 8), qvR 0, qvS 34], zh52, [(2, [1], []), (1, [1], []), (9, [1], [((.ofNat 440), []), (sL 16), (sL 35)]), (9, [1], [((.ofNat 200), []), (sL 11), (sL 36)])]), symsL 37 0, some ((.ofNat 1877), []), 0, 0)
noncomputable def c144_0_p168 : PE := (41, [2, 3, 0, 1], (37, (zt3 [qtN 34 1 4]), [((.ofNat 1), [(20, (.negSucc 0)), (21, (.negSucc 0)), (22, (.negSucc 0)), (23, (.negSucc 0))])], [qvK (.ofNat 3), qvK (.ofNat 9), qvR 0, qvS 34], zh52, [(2, [1], []), (1, [1], []), (9, [1], [((.ofNat 440), []), (sL 16), (sL 35)]), (9, [1], [((.ofNat 200), []), (sL 11), (sL 36)])]), symsL 37 0, some ((.ofNat 1876), []), 0, 0)
noncomputable def c144_0_pts : List PE := [c144_0_p0, c144_0_p1, c144_0_p2, c144_0_p3, c144_0_p4, c144_0_p5, c144_0_p6, c144_0_p7, c144_0_p8, c144_0_p9, c144_0_p10, c144_0_p11, c144_0_p12, c144_0_p13, c144_0_p14, c144_0_p15, c144_0_p16, c144_0_p17, c144_0_p18, c144_0_p19, c144_0_p20, c144_0_p21, c144_0_p22, c144_0_p23, c144_0_p24, c144_0_p25, c144_0_p26, c144_0_p27, c144_0_p28, c144_0_p29, c144_0_p30, c144_0_p31, c144_0_p32, c144_0_p33, c144_0_p34, c144_0_p35, c144_0_p36, c144_0_p37, c144_0_p38, c144_0_p39, c144_0_p40, c144_0_p41, c144_0_p42, c144_0_p43, c144_0_p44, c144_0_p45, c144_0_p46, c144_0_p47, c144_0_p48, c144_0_p49, c144_0_p50, c144_0_p51, c144_0_p52, c144_0_p53, c144_0_p54, c144_0_p55, c144_0_p56, c144_0_p57, c144_0_p58, c144_0_p59, c144_0_p60, c144_0_p61, c144_0_p62, c144_0_p63, c144_0_p64, c144_0_p65, c144_0_p66, c144_0_p67, c144_0_p68, c144_0_p69, c144_0_p70, c144_0_p71, c144_0_p72, c144_0_p73, c144_0_p74, c144_0_p75, c144_0_p76, c144_0_p77, c144_0_p78, c144_0_p79, c144_0_p80, c144_0_p81, c144_0_p82, c144_0_p83, c144_0_p84, c144_0_p85, c144_0_p86, c144_0_p87, c144_0_p88, c144_0_p89, c144_0_p90, c144_0_p91, c144_0_p92, c144_0_p93, c144_0_p94, c144_0_p95, c144_0_p96, c144_0_p97, c144_0_p98, c144_0_p99, c144_0_p100, c144_0_p101, c144_0_p102, c144_0_p103, c144_0_p104, c144_0_p105, c144_0_p106, c144_0_p107, c144_0_p108, c144_0_p109, c144_0_p110, c144_0_p111, c144_0_p112, c144_0_p113, c144_0_p114, c144_0_p115, c144_0_p116, c144_0_p117, c144_0_p118, c144_0_p119, c144_0_p120, c144_0_p121, c144_0_p122, c144_0_p123, c144_0_p124, c144_0_p125, c144_0_p126, c144_0_p127, c144_0_p128, c144_0_p129, c144_0_p130, c144_0_p131, c144_0_p132, c144_0_p133, c144_0_p134, c144_0_p135, c144_0_p136, c144_0_p137, c144_0_p138, c144_0_p139, c144_0_p140, c144_0_p141, c144_0_p142, c144_0_p143, c144_0_p144, c144_0_p145, c144_0_p146, c144_0_p147, c144_0_p148, c144_0_p149, c144_0_p150, c144_0_p151, c144_0_p152, c144_0_p153, c144_0_p154, c144_0_p155, c144_0_p156, c144_0_p157, c144_0_p158, c144_0_p159, c144_0_p160, c144_0_p161, c144_0_p162, c144_0_p163, c144_0_p164, c144_0_p165, c144_0_p166, c144_0_p167, c144_0_p168]
set_option maxRecDepth 100000 in
theorem c144_0_k : enCtF c144_0 c144_0_e (pkP (c144_0_pts ++ []) [0]) (none) (noF, noM, 2216203124736, 0, 37) 3000 = true := by decide +kernel
set_option maxRecDepth 100000 in
theorem c144_0_k0 : ptCtF c144_0 c144_0_e (pkP (c144_0_pts ++ []) [5]) (noF, noM, 2216203124736, 0, 37) 3000 c144_0_p0 = true := by decide +kernel
set_option maxRecDepth 100000 in
theorem c144_0_k1 : ptCtF c144_0 c144_0_e (pkP (c144_0_pts ++ []) [46]) (noF, noM, 2216203124736, 0, 37) 3000 c144_0_p1 = true := by decide +kernel
set_option maxRecDepth 100000 in
theorem c144_0_k2 : ptCtF c144_0 c144_0_e (pkP (c144_0_pts ++ []) [87]) (noF, noM, 2216203124736, 0, 37) 3000 c144_0_p2 = true := by decide +kernel
set_option maxRecDepth 100000 in
theorem c144_0_k3 : ptCtF c144_0 c144_0_e (pkP (c144_0_pts ++ []) [128]) (noF, noM, 2216203124736, 0, 37) 3000 c144_0_p3 = true := by decide +kernel
set_option maxRecDepth 100000 in
theorem c144_0_k4 : ptCtF c144_0 c144_0_e (pkP (c144_0_pts ++ []) []) (noF, noM, 2216203124736, 0, 37) 3000 c144_0_p4 = true := by decide +kernel
set_option maxRecDepth 100000 in
theorem c144_0_k5 : ptCtF c144_0 c144_0_e (pkP (c144_0_pts ++ []) [6]) (noF, noM, 2216203124736, 0, 37) 3000 c144_0_p5 = true := by decide +kernel
set_option maxRecDepth 100000 in
theorem c144_0_k6 : ptCtF c144_0 c144_0_e (pkP (c144_0_pts ++ []) [17]) (noF, noM, 2216203124736, 0, 37) 3000 c144_0_p6 = true := by decide +kernel
set_option maxRecDepth 100000 in
theorem c144_0_k7 : ptCtF c144_0 c144_0_e (pkP (c144_0_pts ++ []) [8]) (noF, noM, 2216203124736, 0, 37) 3000 c144_0_p7 = true := by decide +kernel
set_option maxRecDepth 100000 in
theorem c144_0_k8 : ptCtF c144_0 c144_0_e (pkP (c144_0_pts ++ []) [9]) (noF, noM, 2216203124736, 0, 37) 3000 c144_0_p8 = true := by decide +kernel
set_option maxRecDepth 100000 in
theorem c144_0_k9 : ptCtF c144_0 c144_0_e (pkP (c144_0_pts ++ []) [10]) (noF, noM, 2216203124736, 0, 37) 3000 c144_0_p9 = true := by decide +kernel
set_option maxRecDepth 100000 in
theorem c144_0_k10 : ptCtF c144_0 c144_0_e (pkP (c144_0_pts ++ []) [11]) (noF, noM, 2216203124736, 0, 37) 3000 c144_0_p10 = true := by decide +kernel
set_option maxRecDepth 100000 in
theorem c144_0_k11 : ptCtF c144_0 c144_0_e (pkP (c144_0_pts ++ []) [12]) (noF, noM, 2216203124736, 0, 37) 3000 c144_0_p11 = true := by decide +kernel
set_option maxRecDepth 100000 in
theorem c144_0_k12 : ptCtF c144_0 c144_0_e (pkP (c144_0_pts ++ []) [13]) (noF, noM, 2216203124736, 0, 37) 3000 c144_0_p12 = true := by decide +kernel
set_option maxRecDepth 100000 in
theorem c144_0_k13 : ptCtF c144_0 c144_0_e (pkP (c144_0_pts ++ []) [14]) (noF, noM, 2216203124736, 0, 37) 3000 c144_0_p13 = true := by decide +kernel
set_option maxRecDepth 100000 in
theorem c144_0_k14 : ptCtF c144_0 c144_0_e (pkP (c144_0_pts ++ []) [15]) (noF, noM, 2216203124736, 0, 37) 3000 c144_0_p14 = true := by decide +kernel
set_option maxRecDepth 100000 in
theorem c144_0_k15 : ptCtF c144_0 c144_0_e (pkP (c144_0_pts ++ []) [16]) (noF, noM, 2216203124736, 0, 37) 3000 c144_0_p15 = true := by decide +kernel
set_option maxRecDepth 100000 in
theorem c144_0_k16 : ptCtF c144_0 c144_0_e (pkP (c144_0_pts ++ []) [18]) (noF, noM, 2216203124736, 0, 37) 3000 c144_0_p16 = true := by decide +kernel
set_option maxRecDepth 100000 in
theorem c144_0_k17 : ptCtF c144_0 c144_0_e (pkP (c144_0_pts ++ []) [28]) (noF, noM, 2216203124736, 0, 37) 3000 c144_0_p17 = true := by decide +kernel
set_option maxRecDepth 100000 in
theorem c144_0_k18 : ptCtF c144_0 c144_0_e (pkP (c144_0_pts ++ []) [19]) (noF, noM, 2216203124736, 0, 37) 3000 c144_0_p18 = true := by decide +kernel
set_option maxRecDepth 100000 in
theorem c144_0_k19 : ptCtF c144_0 c144_0_e (pkP (c144_0_pts ++ []) [20]) (noF, noM, 2216203124736, 0, 37) 3000 c144_0_p19 = true := by decide +kernel
set_option maxRecDepth 100000 in
theorem c144_0_k20 : ptCtF c144_0 c144_0_e (pkP (c144_0_pts ++ []) [21]) (noF, noM, 2216203124736, 0, 37) 3000 c144_0_p20 = true := by decide +kernel
set_option maxRecDepth 100000 in
theorem c144_0_k21 : ptCtF c144_0 c144_0_e (pkP (c144_0_pts ++ []) [22]) (noF, noM, 2216203124736, 0, 37) 3000 c144_0_p21 = true := by decide +kernel
set_option maxRecDepth 100000 in
theorem c144_0_k22 : ptCtF c144_0 c144_0_e (pkP (c144_0_pts ++ []) [23]) (noF, noM, 2216203124736, 0, 37) 3000 c144_0_p22 = true := by decide +kernel
set_option maxRecDepth 100000 in
theorem c144_0_k23 : ptCtF c144_0 c144_0_e (pkP (c144_0_pts ++ []) [24]) (noF, noM, 2216203124736, 0, 37) 3000 c144_0_p23 = true := by decide +kernel
set_option maxRecDepth 100000 in
theorem c144_0_k24 : ptCtF c144_0 c144_0_e (pkP (c144_0_pts ++ []) [25]) (noF, noM, 2216203124736, 0, 37) 3000 c144_0_p24 = true := by decide +kernel
set_option maxRecDepth 100000 in
theorem c144_0_k25 : ptCtF c144_0 c144_0_e (pkP (c144_0_pts ++ []) [26]) (noF, noM, 2216203124736, 0, 37) 3000 c144_0_p25 = true := by decide +kernel
set_option maxRecDepth 100000 in
theorem c144_0_k26 : ptCtF c144_0 c144_0_e (pkP (c144_0_pts ++ []) [27]) (noF, noM, 2216203124736, 0, 37) 3000 c144_0_p26 = true := by decide +kernel
set_option maxRecDepth 100000 in
theorem c144_0_k27 : ptCtF c144_0 c144_0_e (pkP (c144_0_pts ++ []) [29]) (noF, noM, 2216203124736, 0, 37) 3000 c144_0_p27 = true := by decide +kernel
set_option maxRecDepth 100000 in
theorem c144_0_k28 : ptCtF c144_0 c144_0_e (pkP (c144_0_pts ++ []) [39]) (noF, noM, 2216203124736, 0, 37) 3000 c144_0_p28 = true := by decide +kernel
set_option maxRecDepth 100000 in
theorem c144_0_k29 : ptCtF c144_0 c144_0_e (pkP (c144_0_pts ++ []) [30]) (noF, noM, 2216203124736, 0, 37) 3000 c144_0_p29 = true := by decide +kernel
set_option maxRecDepth 100000 in
theorem c144_0_k30 : ptCtF c144_0 c144_0_e (pkP (c144_0_pts ++ []) [31]) (noF, noM, 2216203124736, 0, 37) 3000 c144_0_p30 = true := by decide +kernel
set_option maxRecDepth 100000 in
theorem c144_0_k31 : ptCtF c144_0 c144_0_e (pkP (c144_0_pts ++ []) [32]) (noF, noM, 2216203124736, 0, 37) 3000 c144_0_p31 = true := by decide +kernel
set_option maxRecDepth 100000 in
theorem c144_0_k32 : ptCtF c144_0 c144_0_e (pkP (c144_0_pts ++ []) [33]) (noF, noM, 2216203124736, 0, 37) 3000 c144_0_p32 = true := by decide +kernel
set_option maxRecDepth 100000 in
theorem c144_0_k33 : ptCtF c144_0 c144_0_e (pkP (c144_0_pts ++ []) [34]) (noF, noM, 2216203124736, 0, 37) 3000 c144_0_p33 = true := by decide +kernel
set_option maxRecDepth 100000 in
theorem c144_0_k34 : ptCtF c144_0 c144_0_e (pkP (c144_0_pts ++ []) [35]) (noF, noM, 2216203124736, 0, 37) 3000 c144_0_p34 = true := by decide +kernel
set_option maxRecDepth 100000 in
theorem c144_0_k35 : ptCtF c144_0 c144_0_e (pkP (c144_0_pts ++ []) [36]) (noF, noM, 2216203124736, 0, 37) 3000 c144_0_p35 = true := by decide +kernel
set_option maxRecDepth 100000 in
theorem c144_0_k36 : ptCtF c144_0 c144_0_e (pkP (c144_0_pts ++ []) [37]) (noF, noM, 2216203124736, 0, 37) 3000 c144_0_p36 = true := by decide +kernel
set_option maxRecDepth 100000 in
theorem c144_0_k37 : ptCtF c144_0 c144_0_e (pkP (c144_0_pts ++ []) [38]) (noF, noM, 2216203124736, 0, 37) 3000 c144_0_p37 = true := by decide +kernel
set_option maxRecDepth 100000 in
theorem c144_0_k38 : ptCtF c144_0 c144_0_e (pkP (c144_0_pts ++ []) [40]) (noF, noM, 2216203124736, 0, 37) 3000 c144_0_p38 = true := by decide +kernel
set_option maxRecDepth 100000 in
theorem c144_0_k39 : ptCtF c144_0 c144_0_e (pkP (c144_0_pts ++ []) [41]) (noF, noM, 2216203124736, 0, 37) 3000 c144_0_p39 = true := by decide +kernel
set_option maxRecDepth 100000 in
theorem c144_0_k40 : ptCtF c144_0 c144_0_e (pkP (c144_0_pts ++ []) [1]) (noF, noM, 2216203124736, 0, 37) 3000 c144_0_p40 = true := by decide +kernel
set_option maxRecDepth 100000 in
theorem c144_0_k41 : ptCtF c144_0 c144_0_e (pkP (c144_0_pts ++ []) [42]) (noF, noM, 2216203124736, 0, 37) 3000 c144_0_p41 = true := by decide +kernel
set_option maxRecDepth 100000 in
theorem c144_0_k42 : ptCtF c144_0 c144_0_e (pkP (c144_0_pts ++ []) [43]) (noF, noM, 2216203124736, 0, 37) 3000 c144_0_p42 = true := by decide +kernel
set_option maxRecDepth 100000 in
theorem c144_0_k43 : ptCtF c144_0 c144_0_e (pkP (c144_0_pts ++ []) [44]) (noF, noM, 2216203124736, 0, 37) 3000 c144_0_p43 = true := by decide +kernel
set_option maxRecDepth 100000 in
theorem c144_0_k44 : ptCtF c144_0 c144_0_e (pkP (c144_0_pts ++ []) [45]) (noF, noM, 2216203124736, 0, 37) 3000 c144_0_p44 = true := by decide +kernel
set_option maxRecDepth 100000 in
theorem c144_0_k45 : ptCtF c144_0 c144_0_e (pkP (c144_0_pts ++ []) [7]) (noF, noM, 2216203124736, 0, 37) 3000 c144_0_p45 = true := by decide +kernel
set_option maxRecDepth 100000 in
theorem c144_0_k46 : ptCtF c144_0 c144_0_e (pkP (c144_0_pts ++ []) [47]) (noF, noM, 2216203124736, 0, 37) 3000 c144_0_p46 = true := by decide +kernel
set_option maxRecDepth 100000 in
theorem c144_0_k47 : ptCtF c144_0 c144_0_e (pkP (c144_0_pts ++ []) [58]) (noF, noM, 2216203124736, 0, 37) 3000 c144_0_p47 = true := by decide +kernel
set_option maxRecDepth 100000 in
theorem c144_0_k48 : ptCtF c144_0 c144_0_e (pkP (c144_0_pts ++ []) [49]) (noF, noM, 2216203124736, 0, 37) 3000 c144_0_p48 = true := by decide +kernel
set_option maxRecDepth 100000 in
theorem c144_0_k49 : ptCtF c144_0 c144_0_e (pkP (c144_0_pts ++ []) [50]) (noF, noM, 2216203124736, 0, 37) 3000 c144_0_p49 = true := by decide +kernel
set_option maxRecDepth 100000 in
theorem c144_0_k50 : ptCtF c144_0 c144_0_e (pkP (c144_0_pts ++ []) [51]) (noF, noM, 2216203124736, 0, 37) 3000 c144_0_p50 = true := by decide +kernel
set_option maxRecDepth 100000 in
theorem c144_0_k51 : ptCtF c144_0 c144_0_e (pkP (c144_0_pts ++ []) [52]) (noF, noM, 2216203124736, 0, 37) 3000 c144_0_p51 = true := by decide +kernel
set_option maxRecDepth 100000 in
theorem c144_0_k52 : ptCtF c144_0 c144_0_e (pkP (c144_0_pts ++ []) [53]) (noF, noM, 2216203124736, 0, 37) 3000 c144_0_p52 = true := by decide +kernel
set_option maxRecDepth 100000 in
theorem c144_0_k53 : ptCtF c144_0 c144_0_e (pkP (c144_0_pts ++ []) [54]) (noF, noM, 2216203124736, 0, 37) 3000 c144_0_p53 = true := by decide +kernel
set_option maxRecDepth 100000 in
theorem c144_0_k54 : ptCtF c144_0 c144_0_e (pkP (c144_0_pts ++ []) [55]) (noF, noM, 2216203124736, 0, 37) 3000 c144_0_p54 = true := by decide +kernel
set_option maxRecDepth 100000 in
theorem c144_0_k55 : ptCtF c144_0 c144_0_e (pkP (c144_0_pts ++ []) [56]) (noF, noM, 2216203124736, 0, 37) 3000 c144_0_p55 = true := by decide +kernel
set_option maxRecDepth 100000 in
theorem c144_0_k56 : ptCtF c144_0 c144_0_e (pkP (c144_0_pts ++ []) [57]) (noF, noM, 2216203124736, 0, 37) 3000 c144_0_p56 = true := by decide +kernel
set_option maxRecDepth 100000 in
theorem c144_0_k57 : ptCtF c144_0 c144_0_e (pkP (c144_0_pts ++ []) [59]) (noF, noM, 2216203124736, 0, 37) 3000 c144_0_p57 = true := by decide +kernel
set_option maxRecDepth 100000 in
theorem c144_0_k58 : ptCtF c144_0 c144_0_e (pkP (c144_0_pts ++ []) [69]) (noF, noM, 2216203124736, 0, 37) 3000 c144_0_p58 = true := by decide +kernel
set_option maxRecDepth 100000 in
theorem c144_0_k59 : ptCtF c144_0 c144_0_e (pkP (c144_0_pts ++ []) [60]) (noF, noM, 2216203124736, 0, 37) 3000 c144_0_p59 = true := by decide +kernel
set_option maxRecDepth 100000 in
theorem c144_0_k60 : ptCtF c144_0 c144_0_e (pkP (c144_0_pts ++ []) [61]) (noF, noM, 2216203124736, 0, 37) 3000 c144_0_p60 = true := by decide +kernel
set_option maxRecDepth 100000 in
theorem c144_0_k61 : ptCtF c144_0 c144_0_e (pkP (c144_0_pts ++ []) [62]) (noF, noM, 2216203124736, 0, 37) 3000 c144_0_p61 = true := by decide +kernel
set_option maxRecDepth 100000 in
theorem c144_0_k62 : ptCtF c144_0 c144_0_e (pkP (c144_0_pts ++ []) [63]) (noF, noM, 2216203124736, 0, 37) 3000 c144_0_p62 = true := by decide +kernel
set_option maxRecDepth 100000 in
theorem c144_0_k63 : ptCtF c144_0 c144_0_e (pkP (c144_0_pts ++ []) [64]) (noF, noM, 2216203124736, 0, 37) 3000 c144_0_p63 = true := by decide +kernel
set_option maxRecDepth 100000 in
theorem c144_0_k64 : ptCtF c144_0 c144_0_e (pkP (c144_0_pts ++ []) [65]) (noF, noM, 2216203124736, 0, 37) 3000 c144_0_p64 = true := by decide +kernel
set_option maxRecDepth 100000 in
theorem c144_0_k65 : ptCtF c144_0 c144_0_e (pkP (c144_0_pts ++ []) [66]) (noF, noM, 2216203124736, 0, 37) 3000 c144_0_p65 = true := by decide +kernel
set_option maxRecDepth 100000 in
theorem c144_0_k66 : ptCtF c144_0 c144_0_e (pkP (c144_0_pts ++ []) [67]) (noF, noM, 2216203124736, 0, 37) 3000 c144_0_p66 = true := by decide +kernel
set_option maxRecDepth 100000 in
theorem c144_0_k67 : ptCtF c144_0 c144_0_e (pkP (c144_0_pts ++ []) [68]) (noF, noM, 2216203124736, 0, 37) 3000 c144_0_p67 = true := by decide +kernel
set_option maxRecDepth 100000 in
theorem c144_0_k68 : ptCtF c144_0 c144_0_e (pkP (c144_0_pts ++ []) [70]) (noF, noM, 2216203124736, 0, 37) 3000 c144_0_p68 = true := by decide +kernel
set_option maxRecDepth 100000 in
theorem c144_0_k69 : ptCtF c144_0 c144_0_e (pkP (c144_0_pts ++ []) [80]) (noF, noM, 2216203124736, 0, 37) 3000 c144_0_p69 = true := by decide +kernel
set_option maxRecDepth 100000 in
theorem c144_0_k70 : ptCtF c144_0 c144_0_e (pkP (c144_0_pts ++ []) [71]) (noF, noM, 2216203124736, 0, 37) 3000 c144_0_p70 = true := by decide +kernel
set_option maxRecDepth 100000 in
theorem c144_0_k71 : ptCtF c144_0 c144_0_e (pkP (c144_0_pts ++ []) [72]) (noF, noM, 2216203124736, 0, 37) 3000 c144_0_p71 = true := by decide +kernel
set_option maxRecDepth 100000 in
theorem c144_0_k72 : ptCtF c144_0 c144_0_e (pkP (c144_0_pts ++ []) [73]) (noF, noM, 2216203124736, 0, 37) 3000 c144_0_p72 = true := by decide +kernel
set_option maxRecDepth 100000 in
theorem c144_0_k73 : ptCtF c144_0 c144_0_e (pkP (c144_0_pts ++ []) [74]) (noF, noM, 2216203124736, 0, 37) 3000 c144_0_p73 = true := by decide +kernel
set_option maxRecDepth 100000 in
theorem c144_0_k74 : ptCtF c144_0 c144_0_e (pkP (c144_0_pts ++ []) [75]) (noF, noM, 2216203124736, 0, 37) 3000 c144_0_p74 = true := by decide +kernel
set_option maxRecDepth 100000 in
theorem c144_0_k75 : ptCtF c144_0 c144_0_e (pkP (c144_0_pts ++ []) [76]) (noF, noM, 2216203124736, 0, 37) 3000 c144_0_p75 = true := by decide +kernel
set_option maxRecDepth 100000 in
theorem c144_0_k76 : ptCtF c144_0 c144_0_e (pkP (c144_0_pts ++ []) [77]) (noF, noM, 2216203124736, 0, 37) 3000 c144_0_p76 = true := by decide +kernel
set_option maxRecDepth 100000 in
theorem c144_0_k77 : ptCtF c144_0 c144_0_e (pkP (c144_0_pts ++ []) [78]) (noF, noM, 2216203124736, 0, 37) 3000 c144_0_p77 = true := by decide +kernel
set_option maxRecDepth 100000 in
theorem c144_0_k78 : ptCtF c144_0 c144_0_e (pkP (c144_0_pts ++ []) [79]) (noF, noM, 2216203124736, 0, 37) 3000 c144_0_p78 = true := by decide +kernel
set_option maxRecDepth 100000 in
theorem c144_0_k79 : ptCtF c144_0 c144_0_e (pkP (c144_0_pts ++ []) [81]) (noF, noM, 2216203124736, 0, 37) 3000 c144_0_p79 = true := by decide +kernel
set_option maxRecDepth 100000 in
theorem c144_0_k80 : ptCtF c144_0 c144_0_e (pkP (c144_0_pts ++ []) [82]) (noF, noM, 2216203124736, 0, 37) 3000 c144_0_p80 = true := by decide +kernel
set_option maxRecDepth 100000 in
theorem c144_0_k81 : ptCtF c144_0 c144_0_e (pkP (c144_0_pts ++ []) [2]) (noF, noM, 2216203124736, 0, 37) 3000 c144_0_p81 = true := by decide +kernel
set_option maxRecDepth 100000 in
theorem c144_0_k82 : ptCtF c144_0 c144_0_e (pkP (c144_0_pts ++ []) [83]) (noF, noM, 2216203124736, 0, 37) 3000 c144_0_p82 = true := by decide +kernel
set_option maxRecDepth 100000 in
theorem c144_0_k83 : ptCtF c144_0 c144_0_e (pkP (c144_0_pts ++ []) [84]) (noF, noM, 2216203124736, 0, 37) 3000 c144_0_p83 = true := by decide +kernel
set_option maxRecDepth 100000 in
theorem c144_0_k84 : ptCtF c144_0 c144_0_e (pkP (c144_0_pts ++ []) [85]) (noF, noM, 2216203124736, 0, 37) 3000 c144_0_p84 = true := by decide +kernel
set_option maxRecDepth 100000 in
theorem c144_0_k85 : ptCtF c144_0 c144_0_e (pkP (c144_0_pts ++ []) [86]) (noF, noM, 2216203124736, 0, 37) 3000 c144_0_p85 = true := by decide +kernel
set_option maxRecDepth 100000 in
theorem c144_0_k86 : ptCtF c144_0 c144_0_e (pkP (c144_0_pts ++ []) [48]) (noF, noM, 2216203124736, 0, 37) 3000 c144_0_p86 = true := by decide +kernel
set_option maxRecDepth 100000 in
theorem c144_0_k87 : ptCtF c144_0 c144_0_e (pkP (c144_0_pts ++ []) [88]) (noF, noM, 2216203124736, 0, 37) 3000 c144_0_p87 = true := by decide +kernel
set_option maxRecDepth 100000 in
theorem c144_0_k88 : ptCtF c144_0 c144_0_e (pkP (c144_0_pts ++ []) [99]) (noF, noM, 2216203124736, 0, 37) 3000 c144_0_p88 = true := by decide +kernel
set_option maxRecDepth 100000 in
theorem c144_0_k89 : ptCtF c144_0 c144_0_e (pkP (c144_0_pts ++ []) [90]) (noF, noM, 2216203124736, 0, 37) 3000 c144_0_p89 = true := by decide +kernel
set_option maxRecDepth 100000 in
theorem c144_0_k90 : ptCtF c144_0 c144_0_e (pkP (c144_0_pts ++ []) [91]) (noF, noM, 2216203124736, 0, 37) 3000 c144_0_p90 = true := by decide +kernel
set_option maxRecDepth 100000 in
theorem c144_0_k91 : ptCtF c144_0 c144_0_e (pkP (c144_0_pts ++ []) [92]) (noF, noM, 2216203124736, 0, 37) 3000 c144_0_p91 = true := by decide +kernel
set_option maxRecDepth 100000 in
theorem c144_0_k92 : ptCtF c144_0 c144_0_e (pkP (c144_0_pts ++ []) [93]) (noF, noM, 2216203124736, 0, 37) 3000 c144_0_p92 = true := by decide +kernel
set_option maxRecDepth 100000 in
theorem c144_0_k93 : ptCtF c144_0 c144_0_e (pkP (c144_0_pts ++ []) [94]) (noF, noM, 2216203124736, 0, 37) 3000 c144_0_p93 = true := by decide +kernel
set_option maxRecDepth 100000 in
theorem c144_0_k94 : ptCtF c144_0 c144_0_e (pkP (c144_0_pts ++ []) [95]) (noF, noM, 2216203124736, 0, 37) 3000 c144_0_p94 = true := by decide +kernel
set_option maxRecDepth 100000 in
theorem c144_0_k95 : ptCtF c144_0 c144_0_e (pkP (c144_0_pts ++ []) [96]) (noF, noM, 2216203124736, 0, 37) 3000 c144_0_p95 = true := by decide +kernel
set_option maxRecDepth 100000 in
theorem c144_0_k96 : ptCtF c144_0 c144_0_e (pkP (c144_0_pts ++ []) [97]) (noF, noM, 2216203124736, 0, 37) 3000 c144_0_p96 = true := by decide +kernel
set_option maxRecDepth 100000 in
theorem c144_0_k97 : ptCtF c144_0 c144_0_e (pkP (c144_0_pts ++ []) [98]) (noF, noM, 2216203124736, 0, 37) 3000 c144_0_p97 = true := by decide +kernel
set_option maxRecDepth 100000 in
theorem c144_0_k98 : ptCtF c144_0 c144_0_e (pkP (c144_0_pts ++ []) [100]) (noF, noM, 2216203124736, 0, 37) 3000 c144_0_p98 = true := by decide +kernel
set_option maxRecDepth 100000 in
theorem c144_0_k99 : ptCtF c144_0 c144_0_e (pkP (c144_0_pts ++ []) [110]) (noF, noM, 2216203124736, 0, 37) 3000 c144_0_p99 = true := by decide +kernel
set_option maxRecDepth 100000 in
theorem c144_0_k100 : ptCtF c144_0 c144_0_e (pkP (c144_0_pts ++ []) [101]) (noF, noM, 2216203124736, 0, 37) 3000 c144_0_p100 = true := by decide +kernel
set_option maxRecDepth 100000 in
theorem c144_0_k101 : ptCtF c144_0 c144_0_e (pkP (c144_0_pts ++ []) [102]) (noF, noM, 2216203124736, 0, 37) 3000 c144_0_p101 = true := by decide +kernel
set_option maxRecDepth 100000 in
theorem c144_0_k102 : ptCtF c144_0 c144_0_e (pkP (c144_0_pts ++ []) [103]) (noF, noM, 2216203124736, 0, 37) 3000 c144_0_p102 = true := by decide +kernel
set_option maxRecDepth 100000 in
theorem c144_0_k103 : ptCtF c144_0 c144_0_e (pkP (c144_0_pts ++ []) [104]) (noF, noM, 2216203124736, 0, 37) 3000 c144_0_p103 = true := by decide +kernel
set_option maxRecDepth 100000 in
theorem c144_0_k104 : ptCtF c144_0 c144_0_e (pkP (c144_0_pts ++ []) [105]) (noF, noM, 2216203124736, 0, 37) 3000 c144_0_p104 = true := by decide +kernel
set_option maxRecDepth 100000 in
theorem c144_0_k105 : ptCtF c144_0 c144_0_e (pkP (c144_0_pts ++ []) [106]) (noF, noM, 2216203124736, 0, 37) 3000 c144_0_p105 = true := by decide +kernel
set_option maxRecDepth 100000 in
theorem c144_0_k106 : ptCtF c144_0 c144_0_e (pkP (c144_0_pts ++ []) [107]) (noF, noM, 2216203124736, 0, 37) 3000 c144_0_p106 = true := by decide +kernel
set_option maxRecDepth 100000 in
theorem c144_0_k107 : ptCtF c144_0 c144_0_e (pkP (c144_0_pts ++ []) [108]) (noF, noM, 2216203124736, 0, 37) 3000 c144_0_p107 = true := by decide +kernel
set_option maxRecDepth 100000 in
theorem c144_0_k108 : ptCtF c144_0 c144_0_e (pkP (c144_0_pts ++ []) [109]) (noF, noM, 2216203124736, 0, 37) 3000 c144_0_p108 = true := by decide +kernel
set_option maxRecDepth 100000 in
theorem c144_0_k109 : ptCtF c144_0 c144_0_e (pkP (c144_0_pts ++ []) [111]) (noF, noM, 2216203124736, 0, 37) 3000 c144_0_p109 = true := by decide +kernel
set_option maxRecDepth 100000 in
theorem c144_0_k110 : ptCtF c144_0 c144_0_e (pkP (c144_0_pts ++ []) [121]) (noF, noM, 2216203124736, 0, 37) 3000 c144_0_p110 = true := by decide +kernel
set_option maxRecDepth 100000 in
theorem c144_0_k111 : ptCtF c144_0 c144_0_e (pkP (c144_0_pts ++ []) [112]) (noF, noM, 2216203124736, 0, 37) 3000 c144_0_p111 = true := by decide +kernel
set_option maxRecDepth 100000 in
theorem c144_0_k112 : ptCtF c144_0 c144_0_e (pkP (c144_0_pts ++ []) [113]) (noF, noM, 2216203124736, 0, 37) 3000 c144_0_p112 = true := by decide +kernel
set_option maxRecDepth 100000 in
theorem c144_0_k113 : ptCtF c144_0 c144_0_e (pkP (c144_0_pts ++ []) [114]) (noF, noM, 2216203124736, 0, 37) 3000 c144_0_p113 = true := by decide +kernel
set_option maxRecDepth 100000 in
theorem c144_0_k114 : ptCtF c144_0 c144_0_e (pkP (c144_0_pts ++ []) [115]) (noF, noM, 2216203124736, 0, 37) 3000 c144_0_p114 = true := by decide +kernel
set_option maxRecDepth 100000 in
theorem c144_0_k115 : ptCtF c144_0 c144_0_e (pkP (c144_0_pts ++ []) [116]) (noF, noM, 2216203124736, 0, 37) 3000 c144_0_p115 = true := by decide +kernel
set_option maxRecDepth 100000 in
theorem c144_0_k116 : ptCtF c144_0 c144_0_e (pkP (c144_0_pts ++ []) [117]) (noF, noM, 2216203124736, 0, 37) 3000 c144_0_p116 = true := by decide +kernel
set_option maxRecDepth 100000 in
theorem c144_0_k117 : ptCtF c144_0 c144_0_e (pkP (c144_0_pts ++ []) [118]) (noF, noM, 2216203124736, 0, 37) 3000 c144_0_p117 = true := by decide +kernel
set_option maxRecDepth 100000 in
theorem c144_0_k118 : ptCtF c144_0 c144_0_e (pkP (c144_0_pts ++ []) [119]) (noF, noM, 2216203124736, 0, 37) 3000 c144_0_p118 = true := by decide +kernel
set_option maxRecDepth 100000 in
theorem c144_0_k119 : ptCtF c144_0 c144_0_e (pkP (c144_0_pts ++ []) [120]) (noF, noM, 2216203124736, 0, 37) 3000 c144_0_p119 = true := by decide +kernel
set_option maxRecDepth 100000 in
theorem c144_0_k120 : ptCtF c144_0 c144_0_e (pkP (c144_0_pts ++ []) [122]) (noF, noM, 2216203124736, 0, 37) 3000 c144_0_p120 = true := by decide +kernel
set_option maxRecDepth 100000 in
theorem c144_0_k121 : ptCtF c144_0 c144_0_e (pkP (c144_0_pts ++ []) [123]) (noF, noM, 2216203124736, 0, 37) 3000 c144_0_p121 = true := by decide +kernel
set_option maxRecDepth 100000 in
theorem c144_0_k122 : ptCtF c144_0 c144_0_e (pkP (c144_0_pts ++ []) [3]) (noF, noM, 2216203124736, 0, 37) 3000 c144_0_p122 = true := by decide +kernel
set_option maxRecDepth 100000 in
theorem c144_0_k123 : ptCtF c144_0 c144_0_e (pkP (c144_0_pts ++ []) [124]) (noF, noM, 2216203124736, 0, 37) 3000 c144_0_p123 = true := by decide +kernel
set_option maxRecDepth 100000 in
theorem c144_0_k124 : ptCtF c144_0 c144_0_e (pkP (c144_0_pts ++ []) [125]) (noF, noM, 2216203124736, 0, 37) 3000 c144_0_p124 = true := by decide +kernel
set_option maxRecDepth 100000 in
theorem c144_0_k125 : ptCtF c144_0 c144_0_e (pkP (c144_0_pts ++ []) [126]) (noF, noM, 2216203124736, 0, 37) 3000 c144_0_p125 = true := by decide +kernel
set_option maxRecDepth 100000 in
theorem c144_0_k126 : ptCtF c144_0 c144_0_e (pkP (c144_0_pts ++ []) [127]) (noF, noM, 2216203124736, 0, 37) 3000 c144_0_p126 = true := by decide +kernel
set_option maxRecDepth 100000 in
theorem c144_0_k127 : ptCtF c144_0 c144_0_e (pkP (c144_0_pts ++ []) [89]) (noF, noM, 2216203124736, 0, 37) 3000 c144_0_p127 = true := by decide +kernel
set_option maxRecDepth 100000 in
theorem c144_0_k128 : ptCtF c144_0 c144_0_e (pkP (c144_0_pts ++ []) [129]) (noF, noM, 2216203124736, 0, 37) 3000 c144_0_p128 = true := by decide +kernel
set_option maxRecDepth 100000 in
theorem c144_0_k129 : ptCtF c144_0 c144_0_e (pkP (c144_0_pts ++ []) [140]) (noF, noM, 2216203124736, 0, 37) 3000 c144_0_p129 = true := by decide +kernel
set_option maxRecDepth 100000 in
theorem c144_0_k130 : ptCtF c144_0 c144_0_e (pkP (c144_0_pts ++ []) [131]) (noF, noM, 2216203124736, 0, 37) 3000 c144_0_p130 = true := by decide +kernel
set_option maxRecDepth 100000 in
theorem c144_0_k131 : ptCtF c144_0 c144_0_e (pkP (c144_0_pts ++ []) [132]) (noF, noM, 2216203124736, 0, 37) 3000 c144_0_p131 = true := by decide +kernel
set_option maxRecDepth 100000 in
theorem c144_0_k132 : ptCtF c144_0 c144_0_e (pkP (c144_0_pts ++ []) [133]) (noF, noM, 2216203124736, 0, 37) 3000 c144_0_p132 = true := by decide +kernel
set_option maxRecDepth 100000 in
theorem c144_0_k133 : ptCtF c144_0 c144_0_e (pkP (c144_0_pts ++ []) [134]) (noF, noM, 2216203124736, 0, 37) 3000 c144_0_p133 = true := by decide +kernel
set_option maxRecDepth 100000 in
theorem c144_0_k134 : ptCtF c144_0 c144_0_e (pkP (c144_0_pts ++ []) [135]) (noF, noM, 2216203124736, 0, 37) 3000 c144_0_p134 = true := by decide +kernel
set_option maxRecDepth 100000 in
theorem c144_0_k135 : ptCtF c144_0 c144_0_e (pkP (c144_0_pts ++ []) [136]) (noF, noM, 2216203124736, 0, 37) 3000 c144_0_p135 = true := by decide +kernel
set_option maxRecDepth 100000 in
theorem c144_0_k136 : ptCtF c144_0 c144_0_e (pkP (c144_0_pts ++ []) [137]) (noF, noM, 2216203124736, 0, 37) 3000 c144_0_p136 = true := by decide +kernel
set_option maxRecDepth 100000 in
theorem c144_0_k137 : ptCtF c144_0 c144_0_e (pkP (c144_0_pts ++ []) [138]) (noF, noM, 2216203124736, 0, 37) 3000 c144_0_p137 = true := by decide +kernel
set_option maxRecDepth 100000 in
theorem c144_0_k138 : ptCtF c144_0 c144_0_e (pkP (c144_0_pts ++ []) [139]) (noF, noM, 2216203124736, 0, 37) 3000 c144_0_p138 = true := by decide +kernel
set_option maxRecDepth 100000 in
theorem c144_0_k139 : ptCtF c144_0 c144_0_e (pkP (c144_0_pts ++ []) [141]) (noF, noM, 2216203124736, 0, 37) 3000 c144_0_p139 = true := by decide +kernel
set_option maxRecDepth 100000 in
theorem c144_0_k140 : ptCtF c144_0 c144_0_e (pkP (c144_0_pts ++ []) [151]) (noF, noM, 2216203124736, 0, 37) 3000 c144_0_p140 = true := by decide +kernel
set_option maxRecDepth 100000 in
theorem c144_0_k141 : ptCtF c144_0 c144_0_e (pkP (c144_0_pts ++ []) [142]) (noF, noM, 2216203124736, 0, 37) 3000 c144_0_p141 = true := by decide +kernel
set_option maxRecDepth 100000 in
theorem c144_0_k142 : ptCtF c144_0 c144_0_e (pkP (c144_0_pts ++ []) [143]) (noF, noM, 2216203124736, 0, 37) 3000 c144_0_p142 = true := by decide +kernel
set_option maxRecDepth 100000 in
theorem c144_0_k143 : ptCtF c144_0 c144_0_e (pkP (c144_0_pts ++ []) [144]) (noF, noM, 2216203124736, 0, 37) 3000 c144_0_p143 = true := by decide +kernel
set_option maxRecDepth 100000 in
theorem c144_0_k144 : ptCtF c144_0 c144_0_e (pkP (c144_0_pts ++ []) [145]) (noF, noM, 2216203124736, 0, 37) 3000 c144_0_p144 = true := by decide +kernel
set_option maxRecDepth 100000 in
theorem c144_0_k145 : ptCtF c144_0 c144_0_e (pkP (c144_0_pts ++ []) [146]) (noF, noM, 2216203124736, 0, 37) 3000 c144_0_p145 = true := by decide +kernel
set_option maxRecDepth 100000 in
theorem c144_0_k146 : ptCtF c144_0 c144_0_e (pkP (c144_0_pts ++ []) [147]) (noF, noM, 2216203124736, 0, 37) 3000 c144_0_p146 = true := by decide +kernel
set_option maxRecDepth 100000 in
theorem c144_0_k147 : ptCtF c144_0 c144_0_e (pkP (c144_0_pts ++ []) [148]) (noF, noM, 2216203124736, 0, 37) 3000 c144_0_p147 = true := by decide +kernel
set_option maxRecDepth 100000 in
theorem c144_0_k148 : ptCtF c144_0 c144_0_e (pkP (c144_0_pts ++ []) [149]) (noF, noM, 2216203124736, 0, 37) 3000 c144_0_p148 = true := by decide +kernel
set_option maxRecDepth 100000 in
theorem c144_0_k149 : ptCtF c144_0 c144_0_e (pkP (c144_0_pts ++ []) [150]) (noF, noM, 2216203124736, 0, 37) 3000 c144_0_p149 = true := by decide +kernel
set_option maxRecDepth 100000 in
theorem c144_0_k150 : ptCtF c144_0 c144_0_e (pkP (c144_0_pts ++ []) [152]) (noF, noM, 2216203124736, 0, 37) 3000 c144_0_p150 = true := by decide +kernel
set_option maxRecDepth 100000 in
theorem c144_0_k151 : ptCtF c144_0 c144_0_e (pkP (c144_0_pts ++ []) [162]) (noF, noM, 2216203124736, 0, 37) 3000 c144_0_p151 = true := by decide +kernel
set_option maxRecDepth 100000 in
theorem c144_0_k152 : ptCtF c144_0 c144_0_e (pkP (c144_0_pts ++ []) [153]) (noF, noM, 2216203124736, 0, 37) 3000 c144_0_p152 = true := by decide +kernel
set_option maxRecDepth 100000 in
theorem c144_0_k153 : ptCtF c144_0 c144_0_e (pkP (c144_0_pts ++ []) [154]) (noF, noM, 2216203124736, 0, 37) 3000 c144_0_p153 = true := by decide +kernel
set_option maxRecDepth 100000 in
theorem c144_0_k154 : ptCtF c144_0 c144_0_e (pkP (c144_0_pts ++ []) [155]) (noF, noM, 2216203124736, 0, 37) 3000 c144_0_p154 = true := by decide +kernel
set_option maxRecDepth 100000 in
theorem c144_0_k155 : ptCtF c144_0 c144_0_e (pkP (c144_0_pts ++ []) [156]) (noF, noM, 2216203124736, 0, 37) 3000 c144_0_p155 = true := by decide +kernel
set_option maxRecDepth 100000 in
theorem c144_0_k156 : ptCtF c144_0 c144_0_e (pkP (c144_0_pts ++ []) [157]) (noF, noM, 2216203124736, 0, 37) 3000 c144_0_p156 = true := by decide +kernel
set_option maxRecDepth 100000 in
theorem c144_0_k157 : ptCtF c144_0 c144_0_e (pkP (c144_0_pts ++ []) [158]) (noF, noM, 2216203124736, 0, 37) 3000 c144_0_p157 = true := by decide +kernel
set_option maxRecDepth 100000 in
theorem c144_0_k158 : ptCtF c144_0 c144_0_e (pkP (c144_0_pts ++ []) [159]) (noF, noM, 2216203124736, 0, 37) 3000 c144_0_p158 = true := by decide +kernel
set_option maxRecDepth 100000 in
theorem c144_0_k159 : ptCtF c144_0 c144_0_e (pkP (c144_0_pts ++ []) [160]) (noF, noM, 2216203124736, 0, 37) 3000 c144_0_p159 = true := by decide +kernel
set_option maxRecDepth 100000 in
theorem c144_0_k160 : ptCtF c144_0 c144_0_e (pkP (c144_0_pts ++ []) [161]) (noF, noM, 2216203124736, 0, 37) 3000 c144_0_p160 = true := by decide +kernel
set_option maxRecDepth 100000 in
theorem c144_0_k161 : ptCtF c144_0 c144_0_e (pkP (c144_0_pts ++ []) [163]) (noF, noM, 2216203124736, 0, 37) 3000 c144_0_p161 = true := by decide +kernel
set_option maxRecDepth 100000 in
theorem c144_0_k162 : ptCtF c144_0 c144_0_e (pkP (c144_0_pts ++ []) [164]) (noF, noM, 2216203124736, 0, 37) 3000 c144_0_p162 = true := by decide +kernel
set_option maxRecDepth 100000 in
theorem c144_0_k163 : ptCtF c144_0 c144_0_e (pkP (c144_0_pts ++ []) [4]) (noF, noM, 2216203124736, 0, 37) 3000 c144_0_p163 = true := by decide +kernel
set_option maxRecDepth 100000 in
theorem c144_0_k164 : ptCtF c144_0 c144_0_e (pkP (c144_0_pts ++ []) [165]) (noF, noM, 2216203124736, 0, 37) 3000 c144_0_p164 = true := by decide +kernel
set_option maxRecDepth 100000 in
theorem c144_0_k165 : ptCtF c144_0 c144_0_e (pkP (c144_0_pts ++ []) [166]) (noF, noM, 2216203124736, 0, 37) 3000 c144_0_p165 = true := by decide +kernel
set_option maxRecDepth 100000 in
theorem c144_0_k166 : ptCtF c144_0 c144_0_e (pkP (c144_0_pts ++ []) [167]) (noF, noM, 2216203124736, 0, 37) 3000 c144_0_p166 = true := by decide +kernel
set_option maxRecDepth 100000 in
theorem c144_0_k167 : ptCtF c144_0 c144_0_e (pkP (c144_0_pts ++ []) [168]) (noF, noM, 2216203124736, 0, 37) 3000 c144_0_p167 = true := by decide +kernel
set_option maxRecDepth 100000 in
theorem c144_0_k168 : ptCtF c144_0 c144_0_e (pkP (c144_0_pts ++ []) [130]) (noF, noM, 2216203124736, 0, 37) 3000 c144_0_p168 = true := by decide +kernel
set_option maxRecDepth 100000 in
theorem c144_0_v : ValidC PPk c144_0 := ct_ok fpk ⟨noF_ok, noM_ok⟩ (d := 1) (ext := []) (pts := c144_0_pts) (env := c144_0_e) rfl (List.forall_mem_cons.mpr ⟨⟨c145_0_v, Nat.le_of_ble_eq_true rfl⟩, fun _ h => (by cases h)⟩) ext_nil (fun q h => (by cases h)) (enF c144_0_k) (List.forall_mem_cons.mpr ⟨⟨_, ptF c144_0_k0⟩, List.forall_mem_cons.mpr ⟨⟨_, ptF c144_0_k1⟩, List.forall_mem_cons.mpr ⟨⟨_, ptF c144_0_k2⟩, List.forall_mem_cons.mpr ⟨⟨_, ptF c144_0_k3⟩, List.forall_mem_cons.mpr ⟨⟨_, ptF c144_0_k4⟩, List.forall_mem_cons.mpr ⟨⟨_, ptF c144_0_k5⟩, List.forall_mem_cons.mpr ⟨⟨_, ptF c144_0_k6⟩, List.forall_mem_cons.mpr ⟨⟨_, ptF c144_0_k7⟩, List.forall_mem_cons.mpr ⟨⟨_, ptF c144_0_k8⟩, List.forall_mem_cons.mpr ⟨⟨_, ptF c144_0_k9⟩, List.forall_mem_cons.mpr ⟨⟨_, ptF c144_0_k10⟩, List.forall_mem_cons.mpr ⟨⟨_, ptF c144_0_k11⟩, List.forall_mem_cons.mpr ⟨⟨_, ptF c144_0_k12⟩, List.forall_mem_cons.mpr ⟨⟨_, ptF c144_0_k13⟩, List.forall_mem_cons.mpr ⟨⟨_, ptF c144_0_k14⟩, List.forall_mem_cons.mpr ⟨⟨_, ptF c144_0_k15⟩, List.forall_mem_cons.mpr ⟨⟨_, ptF c144_0_k16⟩, List.forall_mem_cons.mpr ⟨⟨_, ptF c144_0_k17⟩, List.forall_mem_cons.mpr ⟨⟨_, ptF c144_0_k18⟩, List.forall_mem_cons.mpr ⟨⟨_, ptF c144_0_k19⟩, List.forall_mem_cons.mpr ⟨⟨_, ptF c144_0_k20⟩, List.forall_mem_cons.mpr ⟨⟨_, ptF c144_0_k21⟩, List.forall_mem_cons.mpr ⟨⟨_, ptF c144_0_k22⟩, List.forall_mem_cons.mpr ⟨⟨_, ptF c144_0_k23⟩, List.forall_mem_cons.mpr ⟨⟨_, ptF c144_0_k24⟩, List.forall_mem_cons.mpr ⟨⟨_, ptF c144_0_k25⟩, List.forall_mem_cons.mpr ⟨⟨_, ptF c144_0_k26⟩, List.forall_mem_cons.mpr ⟨⟨_, ptF c144_0_k27⟩, List.forall_mem_cons.mpr ⟨⟨_, ptF c144_0_k28⟩, List.forall_mem_cons.mpr ⟨⟨_, ptF c144_0_k29⟩, List.forall_mem_cons.mpr ⟨⟨_, ptF c144_0_k30⟩, List.forall_mem_cons.mpr ⟨⟨_, ptF c144_0_k31⟩, List.forall_mem_cons.mpr ⟨⟨_, ptF c144_0_k32⟩, List.forall_mem_cons.mpr ⟨⟨_, ptF c144_0_k33⟩, List.forall_mem_cons.mpr ⟨⟨_, ptF c144_0_k34⟩, List.forall_mem_cons.mpr ⟨⟨_, ptF c144_0_k35⟩, List.forall_mem_cons.mpr ⟨⟨_, ptF c144_0_k36⟩, List.forall_mem_cons.mpr ⟨⟨_, ptF c144_0_k37⟩, List.forall_mem_cons.mpr ⟨⟨_, ptF c144_0_k38⟩, List.forall_mem_cons.mpr ⟨⟨_, ptF c144_0_k39⟩, List.forall_mem_cons.mpr ⟨⟨_, ptF c144_0_k40⟩, List.forall_mem_cons.mpr ⟨⟨_, ptF c144_0_k41⟩, List.forall_mem_cons.mpr ⟨⟨_, ptF c144_0_k42⟩, List.forall_mem_cons.mpr ⟨⟨_, ptF c144_0_k43⟩, List.forall_mem_cons.mpr ⟨⟨_, ptF c144_0_k44⟩, List.forall_mem_cons.mpr ⟨⟨_, ptF c144_0_k45⟩, List.forall_mem_cons.mpr ⟨⟨_, ptF c144_0_k46⟩, List.forall_mem_cons.mpr ⟨⟨_, ptF c144_0_k47⟩, List.forall_mem_cons.mpr ⟨⟨_, ptF c144_0_k48⟩, List.forall_mem_cons.mpr ⟨⟨_, ptF c144_0_k49⟩, List.forall_mem_cons.mpr ⟨⟨_, ptF c144_0_k50⟩, List.forall_mem_cons.mpr ⟨⟨_, ptF c144_0_k51⟩, List.forall_mem_cons.mpr ⟨⟨_, ptF c144_0_k52⟩, List.forall_mem_cons.mpr ⟨⟨_, ptF c144_0_k53⟩, List.forall_mem_cons.mpr ⟨⟨_, ptF c144_0_k54⟩, List.forall_mem_cons.mpr ⟨⟨_, ptF c144_0_k55⟩, List.forall_mem_cons.mpr ⟨⟨_, ptF c144_0_k56⟩, List.forall_mem_cons.mpr ⟨⟨_, ptF c144_0_k57⟩, List.forall_mem_cons.mpr ⟨⟨_, ptF c144_0_k58⟩, List.forall_mem_cons.mpr ⟨⟨_, ptF c144_0_k59⟩, List.forall_mem_cons.mpr ⟨⟨_, ptF c144_0_k60⟩, List.forall_mem_cons.mpr ⟨⟨_, ptF c144_0_k61⟩, List.forall_mem_cons.mpr ⟨⟨_, ptF c144_0_k62⟩, List.forall_mem_cons.mpr ⟨⟨_, ptF c144_0_k63⟩, List.forall_mem_cons.mpr ⟨⟨_, ptF c144_0_k64⟩, List.forall_mem_cons.mpr ⟨⟨_, ptF c144_0_k65⟩, List.forall_mem_cons.mpr ⟨⟨_, ptF c144_0_k66⟩, List.forall_mem_cons.mpr ⟨⟨_, ptF c144_0_k67⟩, List.forall_mem_cons.mpr ⟨⟨_, ptF c144_0_k68⟩, List.forall_mem_cons.mpr ⟨⟨_, ptF c144_0_k69⟩, List.forall_mem_cons.mpr ⟨⟨_, ptF c144_0_k70⟩, List.forall_mem_cons.mpr ⟨⟨_, ptF c144_0_k71⟩, List.forall_mem_cons.mpr ⟨⟨_, ptF c144_0_k72⟩, List.forall_mem_cons.mpr ⟨⟨_, ptF c144_0_k73⟩, List.forall_mem_cons.mpr ⟨⟨_, ptF c144_0_k74⟩, List.forall_mem_cons.mpr ⟨⟨_, ptF c144_0_k75⟩, List.forall_mem_cons.mpr ⟨⟨_, ptF c144_0_k76⟩, List.forall_mem_cons.mpr ⟨⟨_, ptF c144_0_k77⟩, List.forall_mem_cons.mpr ⟨⟨_, ptF c144_0_k78⟩, List.forall_mem_cons.mpr ⟨⟨_, ptF c144_0_k79⟩, List.forall_mem_cons.mpr ⟨⟨_, ptF c144_0_k80⟩, List.forall_mem_cons.mpr ⟨⟨_, ptF c144_0_k81⟩, List.forall_mem_cons.mpr ⟨⟨_, ptF c144_0_k82⟩, List.forall_mem_cons.mpr ⟨⟨_, ptF c144_0_k83⟩, List.forall_mem_cons.mpr ⟨⟨_, ptF c144_0_k84⟩, List.forall_mem_cons.mpr ⟨⟨_, ptF c144_0_k85⟩, List.forall_mem_cons.mpr ⟨⟨_, ptF c144_0_k86⟩, List.forall_mem_cons.mpr ⟨⟨_, ptF c144_0_k87⟩, List.forall_mem_cons.mpr ⟨⟨_, ptF c144_0_k88⟩, List.forall_mem_cons.mpr ⟨⟨_, ptF c144_0_k89⟩, List.forall_mem_cons.mpr ⟨⟨_, ptF c144_0_k90⟩, List.forall_mem_cons.mpr ⟨⟨_, ptF c144_0_k91⟩, List.forall_mem_cons.mpr ⟨⟨_, ptF c144_0_k92⟩, List.forall_mem_cons.mpr ⟨⟨_, ptF c144_0_k93⟩, List.forall_mem_cons.mpr ⟨⟨_, ptF c144_0_k94⟩, List.forall_mem_cons.mpr ⟨⟨_, ptF c144_0_k95⟩, List.forall_mem_cons.mpr ⟨⟨_, ptF c144_0_k96⟩, List.forall_mem_cons.mpr ⟨⟨_, ptF c144_0_k97⟩, List.forall_mem_cons.mpr ⟨⟨_, ptF c144_0_k98⟩, List.forall_mem_cons.mpr ⟨⟨_, ptF c144_0_k99⟩, List.forall_mem_cons.mpr ⟨⟨_, ptF c144_0_k100⟩, List.forall_mem_cons.mpr ⟨⟨_, ptF c144_0_k101⟩, List.forall_mem_cons.mpr ⟨⟨_, ptF c144_0_k102⟩, List.forall_mem_cons.mpr ⟨⟨_, ptF c144_0_k103⟩, List.forall_mem_cons.mpr ⟨⟨_, ptF c144_0_k104⟩, List.forall_mem_cons.mpr ⟨⟨_, ptF c144_0_k105⟩, List.forall_mem_cons.mpr ⟨⟨_, ptF c144_0_k106⟩, List.forall_mem_cons.mpr ⟨⟨_, ptF c144_0_k107⟩, List.forall_mem_cons.mpr ⟨⟨_, ptF c144_0_k108⟩, List.forall_mem_cons.mpr ⟨⟨_, ptF c144_0_k109⟩, List.forall_mem_cons.mpr ⟨⟨_, ptF c144_0_k110⟩, List.forall_mem_cons.mpr ⟨⟨_, ptF c144_0_k111⟩, List.forall_mem_cons.mpr ⟨⟨_, ptF c144_0_k112⟩, List.forall_mem_cons.mpr ⟨⟨_, ptF c144_0_k113⟩, List.forall_mem_cons.mpr ⟨⟨_, ptF c144_0_k114⟩, List.forall_mem_cons.mpr ⟨⟨_, ptF c144_0_k115⟩, List.forall_mem_cons.mpr ⟨⟨_, ptF c144_0_k116⟩, List.forall_mem_cons.mpr ⟨⟨_, ptF c144_0_k117⟩, List.forall_mem_cons.mpr ⟨⟨_, ptF c144_0_k118⟩, List.forall_mem_cons.mpr ⟨⟨_, ptF c144_0_k119⟩, List.forall_mem_cons.mpr ⟨⟨_, ptF c144_0_k120⟩, List.forall_mem_cons.mpr ⟨⟨_, ptF c144_0_k121⟩, List.forall_mem_cons.mpr ⟨⟨_, ptF c144_0_k122⟩, List.forall_mem_cons.mpr ⟨⟨_, ptF c144_0_k123⟩, List.forall_mem_cons.mpr ⟨⟨_, ptF c144_0_k124⟩, List.forall_mem_cons.mpr ⟨⟨_, ptF c144_0_k125⟩, List.forall_mem_cons.mpr ⟨⟨_, ptF c144_0_k126⟩, List.forall_mem_cons.mpr ⟨⟨_, ptF c144_0_k127⟩, List.forall_mem_cons.mpr ⟨⟨_, ptF c144_0_k128⟩, List.forall_mem_cons.mpr ⟨⟨_, ptF c144_0_k129⟩, List.forall_mem_cons.mpr ⟨⟨_, ptF c144_0_k130⟩, List.forall_mem_cons.mpr ⟨⟨_, ptF c144_0_k131⟩, List.forall_mem_cons.mpr ⟨⟨_, ptF c144_0_k132⟩, List.forall_mem_cons.mpr ⟨⟨_, ptF c144_0_k133⟩, List.forall_mem_cons.mpr ⟨⟨_, ptF c144_0_k134⟩, List.forall_mem_cons.mpr ⟨⟨_, ptF c144_0_k135⟩, List.forall_mem_cons.mpr ⟨⟨_, ptF c144_0_k136⟩, List.forall_mem_cons.mpr ⟨⟨_, ptF c144_0_k137⟩, List.forall_mem_cons.mpr ⟨⟨_, ptF c144_0_k138⟩, List.forall_mem_cons.mpr ⟨⟨_, ptF c144_0_k139⟩, List.forall_mem_cons.mpr ⟨⟨_, ptF c144_0_k140⟩, List.forall_mem_cons.mpr ⟨⟨_, ptF c144_0_k141⟩, List.forall_mem_cons.mpr ⟨⟨_, ptF c144_0_k142⟩, List.forall_mem_cons.mpr ⟨⟨_, ptF c144_0_k143⟩, List.forall_mem_cons.mpr ⟨⟨_, ptF c144_0_k144⟩, List.forall_mem_cons.mpr ⟨⟨_, ptF c144_0_k145⟩, List.forall_mem_cons.mpr ⟨⟨_, ptF c144_0_k146⟩, List.forall_mem_cons.mpr ⟨⟨_, ptF c144_0_k147⟩, List.forall_mem_cons.mpr ⟨⟨_, ptF c144_0_k148⟩, List.forall_mem_cons.mpr ⟨⟨_, ptF c144_0_k149⟩, List.forall_mem_cons.mpr ⟨⟨_, ptF c144_0_k150⟩, List.forall_mem_cons.mpr ⟨⟨_, ptF c144_0_k151⟩, List.forall_mem_cons.mpr ⟨⟨_, ptF c144_0_k152⟩, List.forall_mem_cons.mpr ⟨⟨_, ptF c144_0_k153⟩, List.forall_mem_cons.mpr ⟨⟨_, ptF c144_0_k154⟩, List.forall_mem_cons.mpr ⟨⟨_, ptF c144_0_k155⟩, List.forall_mem_cons.mpr ⟨⟨_, ptF c144_0_k156⟩, List.forall_mem_cons.mpr ⟨⟨_, ptF c144_0_k157⟩, List.forall_mem_cons.mpr ⟨⟨_, ptF c144_0_k158⟩, List.forall_mem_cons.mpr ⟨⟨_, ptF c144_0_k159⟩, List.forall_mem_cons.mpr ⟨⟨_, ptF c144_0_k160⟩, List.forall_mem_cons.mpr ⟨⟨_, ptF c144_0_k161⟩, List.forall_mem_cons.mpr ⟨⟨_, ptF c144_0_k162⟩, List.forall_mem_cons.mpr ⟨⟨_, ptF c144_0_k163⟩, List.forall_mem_cons.mpr ⟨⟨_, ptF c144_0_k164⟩, List.forall_mem_cons.mpr ⟨⟨_, ptF c144_0_k165⟩, List.forall_mem_cons.mpr ⟨⟨_, ptF c144_0_k166⟩, List.forall_mem_cons.mpr ⟨⟨_, ptF c144_0_k167⟩, List.forall_mem_cons.mpr ⟨⟨_, ptF c144_0_k168⟩, fun _ h => (by cases h)⟩⟩⟩⟩⟩⟩⟩⟩⟩⟩⟩⟩⟩⟩⟩⟩⟩⟩⟩⟩⟩⟩⟩⟩⟩⟩⟩⟩⟩⟩⟩⟩⟩⟩⟩⟩⟩⟩⟩⟩⟩⟩⟩⟩⟩⟩⟩⟩⟩⟩⟩⟩⟩⟩⟩⟩⟩⟩⟩⟩⟩⟩⟩⟩⟩⟩⟩⟩⟩⟩⟩⟩⟩⟩⟩⟩⟩⟩⟩⟩⟩⟩⟩⟩⟩⟩⟩⟩⟩⟩⟩⟩⟩⟩⟩⟩⟩⟩⟩⟩⟩⟩⟩⟩⟩⟩⟩⟩⟩⟩⟩⟩⟩⟩⟩⟩⟩⟩⟩⟩⟩⟩⟩⟩⟩⟩⟩⟩⟩⟩⟩⟩⟩⟩⟩⟩⟩⟩⟩⟩⟩⟩⟩⟩⟩⟩⟩⟩⟩⟩⟩⟩⟩⟩⟩⟩⟩⟩⟩⟩⟩⟩⟩⟩⟩⟩⟩⟩⟩)

noncomputable def c17_0 : Ct := (17, 2, (1, [qtA 0], [], [qvS 0], [], []),
  [((1, [(0, (.negSucc 2147483647), (.negSucc 0))], [], [qvK (.ofNat 0)], [], []), 0, 0),
   ((1, [qtN 0 12 2147483647], [], [qvK (.ofNat 0)], [], []), 0, 0),
   ((1, [qtN 0 0 11], [], [qvK (.ofNat 1)], [], []), 0, 0)])
noncomputable def c17_0_e : List Ct := [c12_0]
noncomputable def c17_0_pts : List PE := []
set_option maxRecDepth 100000 in
theorem c17_0_k : enCtF c17_0 c17_0_e (pkP (c17_0_pts ++ []) []) (none) noH 3000 = true := by decide +kernel
set_option maxRecDepth 100000 in
theorem c17_0_v : ValidC PPk c17_0 := ct_ok fpk noH_ok (d := 1) (ext := []) (pts := c17_0_pts) (env := c17_0_e) rfl (List.forall_mem_cons.mpr ⟨⟨c12_0_v, Nat.le_of_ble_eq_true rfl⟩, fun _ h => (by cases h)⟩) ext_nil (fun q h => (by cases h)) (enF c17_0_k) (fun _ h => (by cases h))

noncomputable def c16_0 : Ct := (16, 3, (4, [qtA 0, qtA 1, qtA 2, qtA 3], [], [qvS 0, qvS 1, qvS 2, qvS 3], [], []),
  [((4, [], [], [qvK (.ofNat 0)], [], [(12, [], [(sL 0), (sL 1), (sL 2), (sL 3), ((.ofNat 0), [])])]), 0, 0),
   ((4, [qtN 0 0 10, qtN 1 0 11], [], [qvK (.ofNat 1)], [], [(12, [], [(sL 0), (sL 1), (sL 2), (sL 3), ((.ofNat 1), [])])]), 0, 0)])
noncomputable def c16_0_e : List Ct := [c12_0, c17_0]
noncomputable def c16_0_pts : List PE := []
set_option maxRecDepth 100000 in
theorem c16_0_k : enCtF c16_0 c16_0_e (pkP (c16_0_pts ++ []) []) (none) ((hOr (atPc 20 (fCut 0 (.ofNat 6))) (hOr (atPc 18 (fIsF 0 1 2 3)) (hOr (atPc 81 (fIsF 0 1 2 3)) (hOr (atPc 89 (fIsF 0 1 2 3)) (hOr (atPc 96 (fIsF 0 1 2 3)) (hOr (atPc 104 (fIsF 0 1 2 3)) (atPc 124 (fIsF 0 1 2 3)))))))), noM, 0, 21267668294817808003677593901081034752, 4) 3000 = true := by decide +kernel
set_option maxRecDepth 100000 in
theorem c16_0_v : ValidC PPk c16_0 := ct_ok fpk ⟨(hOr_ok (atPc_ok (fCut_ok 0 (.ofNat 6))) (hOr_ok (atPc_ok (fIsF_ok 0 1 2 3)) (hOr_ok (atPc_ok (fIsF_ok 0 1 2 3)) (hOr_ok (atPc_ok (fIsF_ok 0 1 2 3)) (hOr_ok (atPc_ok (fIsF_ok 0 1 2 3)) (hOr_ok (atPc_ok (fIsF_ok 0 1 2 3)) (atPc_ok (fIsF_ok 0 1 2 3)))))))), noM_ok⟩ (d := 2) (ext := []) (pts := c16_0_pts) (env := c16_0_e) rfl (List.forall_mem_cons.mpr ⟨⟨c12_0_v, Nat.le_of_ble_eq_true rfl⟩, List.forall_mem_cons.mpr ⟨⟨c17_0_v, Nat.le_of_ble_eq_true rfl⟩, fun _ h => (by cases h)⟩⟩) ext_nil (fun q h => (by cases h)) (enF c16_0_k) (fun _ h => (by cases h))

noncomputable def zc54 : AC := qoC 2 [qvS 0, qvR 1, qvR 2, qvR 3, qvR 4]
noncomputable def zh55 : AH := [zc54, qiC 0 [qgA 60], qiC 0 [qgA 60], qiC 0 [qgA 60], qiC 0 [qgA 60]]
noncomputable def c18_0 : Ct := (18, 1, (6, [qtN 0 0 60, qtA 1, qtA 2, qtA 3, qtA 4], [], [qvR 0, qvS 1, qvS 2, qvS 3, qvS 4], zh55, [(0, [1, 2, 3, 4], []), (8, [1, 2, 3, 4], [(sL 0), (sL 5)]), (12, [], [(sL 1), (sL 2), (sL 3), (sL 4), ((.ofNat 1), [])])]),
  [((6, [qtN 0 0 59], [], [], [qoC 2 [.inl (false, ((.ofNat 1), [(0, (.ofNat 1))])), qvR 1, qvR 2, qvR 3, qvR 4], qiC 0 [qgA 60], qiC 0 [qgA 60], qiC 0 [qgA 60], qiC 0 [qgA 60]], [(0, [1, 2, 3, 4], []), (8, [1, 2, 3, 4], [((.ofNat 1), [(0, (.ofNat 1))]), ((.ofNat 0), [(1, (.ofNat 29791)), (2, (.ofNat 961)), (3, (.ofNat 31)), (4, (.ofNat 1)), (5, (.ofNat 923521))])]), (12, [], [(sL 1), (sL 2), (sL 3), (sL 4), ((.ofNat 1), [])])]), 0, 0),
   ((6, [qtN 0 60 60], [], [], zh55, [(0, [1, 2, 3, 4], []), (8, [1, 2, 3, 4], [(sL 0), (sL 5)]), (12, [], [(sL 1), (sL 2), (sL 3), (sL 4), ((.ofNat 1), [])])]), 0, 0)])
noncomputable def c18_0_e : List Ct := []
noncomputable def c18_0_pts : List PE := []
set_option maxRecDepth 100000 in
theorem c18_0_k : enCtF c18_0 c18_0_e (pkP (c18_0_pts ++ []) []) (some (0, 0, 61)) ((hOr (hOpen 14 100 0) (hOr (atPc 11 fCn) (hOr (atPc 51 fCi) (atPc 52 fCl)))), noM, 0, 6755399441074176, 6) 3000 = true := by decide +kernel
set_option maxRecDepth 100000 in
theorem c18_0_v : ValidC PPk c18_0 := ct_ok fpk ⟨(hOr_ok (hOpen_ok 14 100 0) (hOr_ok (atPc_ok fCn_ok) (hOr_ok (atPc_ok fCi_ok) (atPc_ok fCl_ok)))), noM_ok⟩ (d := 0) (ext := []) (pts := c18_0_pts) (env := c18_0_e) rfl (fun _ h => (by cases h)) ext_nil (fun q h => (by cases h; exact Nat.le_of_ble_eq_true rfl)) (enF c18_0_k) (fun _ h => (by cases h))

noncomputable def zt4 (r : TbL) : TbL := qtN 0 1 4 :: qtA 1 :: qtA 2 :: qtN 3 1 1000 :: qtN 4 0 50 :: qtN 5 0 10 :: qtN 6 0 60 :: qtN 7 0 60 :: qtN 8 0 8 :: qtN 16 0 6 :: qtN 23 0 60 :: qtA 24 :: qtN 25 0 60 :: qtN 26 0 60 :: qtN 29 0 8 :: qtA 38 :: qtA 39 :: qtA 40 :: qtA 41 :: qtA 42 :: qtA 43 :: qtN 44 0 3 :: qtA 45 :: qtA 46 :: qtA 47 :: qtA 48 :: qtN 49 0 1 :: qtA 50 :: qtA 51 :: qtA 52 :: qtA 53 :: qtA 54 :: qtA 56 :: qtA 57 :: qtA 58 :: qtA 59 :: qtA 61 :: qtA 62 :: qtA 63 :: qtA 64 :: qtA 66 :: qtA 67 :: qtA 68 :: qtA 69 :: qtA 71 :: r
noncomputable def zc56 : AC := qoC 2 [qvS 7, qvR 9, qvR 10, qvR 11, qvR 12]
noncomputable def zc57 : AC := qoC 3 [qvR 14, qvR 15, qvS 8, qvR 16, qvR 17, qvR 18]
noncomputable def zc58 : AC := qoC 4 [qvS 16, qvR 22, qvR 23, qvR 24, qvR 25]
noncomputable def zc59 : AC := qoC 5 [qvS 23, qvR 29, qvS 24, qvS 25, qvS 26, qvR 30, qvR 31]
noncomputable def zc60 : AC := qoC 6 [qvS 29, qvR 33, qvR 34, qvR 35, qvR 36, qvR 37]
noncomputable def zc61 : AC := qoC 7 [qvR 42, qvS 38, qvR 51, qvR 55, qvR 56, qvS 39, qvS 40, qvS 41, qvS 42, qvS 43, qvS 44, qvS 45, qvS 46, qvS 47, qvS 48, qvS 49, qvS 50]
noncomputable def zc62 : AC := qoC 8 [qvR 44, qvS 51, qvS 52, qvS 53, qvS 54]
noncomputable def zc63 : AC := qoC 8 [qvR 46, qvS 56, qvS 57, qvS 58, qvS 59]
noncomputable def zc64 : AC := qoC 8 [qvR 48, qvS 61, qvS 62, qvS 63, qvS 64]
noncomputable def zc65 : AC := qoC 8 [qvR 50, qvS 66, qvS 67, qvS 68, qvS 69]
noncomputable def zc66 : AC := qoC 9 [qvR 52, qvR 53, qvR 54, qvS 71]
noncomputable def zh67 : AH := [zc12, zc31, qrC 4 [some 3, some 8], zc32, qiC 0 [qgA 60], qiC 0 [qgA 60], qiC 0 [qgA 60], qiC 0 [qgA 60], zc56, qiC 0 [qgA 60], qiC 0 [qgA 60], qiC 0 [qgA 60], qiC 0 [qgA 60], zc57, qkC 100 9, qkC 100 10, qkC 100 11, qkC 100 12, qkC 100 13, qkC 100 14, qkC 100 15, zc58, qkC 100 17, qkC 100 18, qkC 100 19, qkC 100 20, qkC 100 21, qkC 100 22, zc59, qkC 102 27, qkC 100 28, qjC 1 60, zc60, qkC 100 30, qkC 100 31, qkC 100 32, qkC 100 33, qkC 100 34, qkC 100 35, qkC 100 36, qkC 100 37, zc61, zc39, zc62, qkC 100 55, zc63, qkC 100 60, zc64, qkC 100 65, zc65, qkC 100 70, zc66, qkC 100 72, qkC 100 73, qkC 100 74, qkC 100 75, qkC 100 76, zc13, qjC 1 6, qjC 1 4, qrC 6 [none, none], qrC 7 [none, none]]
noncomputable def zc68 : AC := qoC 2 [.inl (false, ((.ofNat 1), [(6, (.ofNat 1))])), qvR 4, qvR 5, qvR 6, qvR 7]
noncomputable def zh69 : AH := [zc12, zc31, qrC 4 [some 3, some 8], zc68, qiC 0 [qgA 60], qiC 0 [qgA 60], qiC 0 [qgA 60], qiC 0 [qgA 60], zc56, qiC 0 [qgA 60], qiC 0 [qgA 60], qiC 0 [qgA 60], qiC 0 [qgA 60], zc57, qkC 100 9, qkC 100 10, qkC 100 11, qkC 100 12, qkC 100 13, qkC 100 14, qkC 100 15, zc58, qkC 100 17, qkC 100 18, qkC 100 19, qkC 100 20, qkC 100 21, qkC 100 22, zc59, qkC 102 27, qkC 100 28, qjC 1 60, zc60, qkC 100 30, qkC 100 31, qkC 100 32, qkC 100 33, qkC 100 34, qkC 100 35, qkC 100 36, qkC 100 37, zc61, zc39, zc62, qkC 100 55, zc63, qkC 100 60, zc64, qkC 100 65, zc65, qkC 100 70, zc66, qkC 100 72, qkC 100 73, qkC 100 74, qkC 100 75, qkC 100 76, zc13, qjC 1 6, qjC 1 4, qrC 6 [none, none], qrC 7 [none, none]]
noncomputable def zc70 : AC := qoC 2 [.inl (false, ((.ofNat 1), [(7, (.ofNat 1))])), qvR 9, qvR 10, qvR 11, qvR 12]
noncomputable def zh71 : AH := [zc12, zc31, qrC 4 [some 3, some 8], zc32, qiC 0 [qgA 60], qiC 0 [qgA 60], qiC 0 [qgA 60], qiC 0 [qgA 60], zc70, qiC 0 [qgA 60], qiC 0 [qgA 60], qiC 0 [qgA 60], qiC 0 [qgA 60], zc57, qkC 100 9, qkC 100 10, qkC 100 11, qkC 100 12, qkC 100 13, qkC 100 14, qkC 100 15, zc58, qkC 100 17, qkC 100 18, qkC 100 19, qkC 100 20, qkC 100 21, qkC 100 22, zc59, qkC 102 27, qkC 100 28, qjC 1 60, zc60, qkC 100 30, qkC 100 31, qkC 100 32, qkC 100 33, qkC 100 34, qkC 100 35, qkC 100 36, qkC 100 37, zc61, zc39, zc62, qkC 100 55, zc63, qkC 100 60, zc64, qkC 100 65, zc65, qkC 100 70, zc66, qkC 100 72, qkC 100 73, qkC 100 74, qkC 100 75, qkC 100 76, zc13, qjC 1 6, qjC 1 4, qrC 6 [none, none], qrC 7 [none, none]]
noncomputable def c15_0 : Ct := (15, 4, (87, (zt4 [qtA 77, qtA 78, qtA 79, qtA 80, qtN 83 0 60, qtN 85 0 60]), [], [qvR 0, qvS 77, qvS 78, qvS 79, qvS 80], zh67, [(0, [9, 10, 11, 12], []), (0, [4, 5, 6, 7], []), (8, [9, 10, 11, 12], [(sL 7), (sL 81)]), (8, [4, 5, 6, 7], [(sL 6), (sL 82)]), (13, [], [(sL 49), (sL 6), (sL 82), (sL 7), (sL 81), (sL 83), (sL 84), (sL 85), (sL 86)])]),
  [((87, [], [], [qvK (.negSucc 1)], zh67, [(0, [9, 10, 11, 12], []), (0, [4, 5, 6, 7], []), (12, [], [(sL 77), (sL 78), (sL 79), (sL 80), ((.ofNat 0), [])]), (8, [9, 10, 11, 12], [(sL 7), (sL 81)]), (8, [4, 5, 6, 7], [(sL 6), (sL 82)]), (13, [], [(sL 49), (sL 6), (sL 82), (sL 7), (sL 81), (sL 83), (sL 84), (sL 85), (sL 86)])]), 0, 0),
   ((87, [qtN 6 0 59, (45, (.negSucc 2147483647), (.ofNat 0)), qtN 49 0 0, qtN 77 0 10, qtN 78 0 11], [((.ofNat 0), [(6, (.negSucc 0)), (83, (.ofNat 1))]), ((.ofNat 0), [(6, (.ofNat 1)), (83, (.negSucc 0))]), ((.ofNat 0), [(7, (.negSucc 0)), (85, (.ofNat 1))]), ((.ofNat 0), [(7, (.ofNat 1)), (85, (.negSucc 0))])], [qvS 6], zh69, [(0, [4, 5, 6, 7], []), (0, [9, 10, 11, 12], []), (13, [], [(sL 49), ((.ofNat 1), [(6, (.ofNat 1))]), ((.ofNat 0), [(77, (.ofNat 29791)), (78, (.ofNat 961)), (79, (.ofNat 31)), (80, (.ofNat 1)), (84, (.ofNat 923521))]), (sL 7), (sL 86), ((.ofNat 1), [(6, (.ofNat 1))]), ((.ofNat 0), [(77, (.ofNat 29791)), (78, (.ofNat 961)), (79, (.ofNat 31)), (80, (.ofNat 1)), (84, (.ofNat 923521))]), (sL 7), (sL 86)]), (8, [4, 5, 6, 7], [((.ofNat 1), [(6, (.ofNat 1))]), ((.ofNat 0), [(77, (.ofNat 29791)), (78, (.ofNat 961)), (79, (.ofNat 31)), (80, (.ofNat 1)), (84, (.ofNat 923521))])]), (12, [], [(sL 77), (sL 78), (sL 79), (sL 80), ((.ofNat 1), [])]), (8, [9, 10, 11, 12], [(sL 7), (sL 86)])]), 0, 0),
   ((87, [qtN 6 60 60, (45, (.negSucc 2147483647), (.ofNat 0)), qtN 49 0 0, qtN 77 0 10, qtN 78 0 11], [((.ofNat 0), [(6, (.negSucc 0)), (83, (.ofNat 1))]), ((.ofNat 0), [(6, (.ofNat 1)), (83, (.negSucc 0))]), ((.ofNat 0), [(7, (.negSucc 0)), (85, (.ofNat 1))]), ((.ofNat 0), [(7, (.ofNat 1)), (85, (.negSucc 0))])], [qvK (.negSucc 3)], zh67, [(0, [9, 10, 11, 12], []), (0, [4, 5, 6, 7], []), (13, [], [(sL 49), (sL 6), (sL 84), (sL 7), (sL 86), (sL 6), (sL 84), (sL 7), (sL 86)]), (8, [4, 5, 6, 7], [(sL 6), (sL 84)]), (8, [9, 10, 11, 12], [(sL 7), (sL 86)]), (12, [], [(sL 77), (sL 78), (sL 79), (sL 80), ((.ofNat 1), [])])]), 0, 0),
   ((87, [qtN 7 0 59, (45, (.negSucc 2147483647), (.ofNat 0)), qtN 49 1 1, qtN 77 0 10, qtN 78 0 11], [((.ofNat 0), [(7, (.negSucc 0)), (83, (.ofNat 1))]), ((.ofNat 0), [(7, (.ofNat 1)), (83, (.negSucc 0))]), ((.ofNat 0), [(6, (.negSucc 0)), (85, (.ofNat 1))]), ((.ofNat 0), [(6, (.ofNat 1)), (85, (.negSucc 0))])], [qvS 7], zh71, [(0, [9, 10, 11, 12], []), (0, [4, 5, 6, 7], []), (13, [], [(sL 49), (sL 6), (sL 86), ((.ofNat 1), [(7, (.ofNat 1))]), ((.ofNat 0), [(77, (.ofNat 29791)), (78, (.ofNat 961)), (79, (.ofNat 31)), (80, (.ofNat 1)), (84, (.ofNat 923521))]), ((.ofNat 1), [(7, (.ofNat 1))]), ((.ofNat 0), [(77, (.ofNat 29791)), (78, (.ofNat 961)), (79, (.ofNat 31)), (80, (.ofNat 1)), (84, (.ofNat 923521))]), (sL 6), (sL 86)]), (8, [9, 10, 11, 12], [((.ofNat 1), [(7, (.ofNat 1))]), ((.ofNat 0), [(77, (.ofNat 29791)), (78, (.ofNat 961)), (79, (.ofNat 31)), (80, (.ofNat 1)), (84, (.ofNat 923521))])]), (12, [], [(sL 77), (sL 78), (sL 79), (sL 80), ((.ofNat 1), [])]), (8, [4, 5, 6, 7], [(sL 6), (sL 86)])]), 0, 0),
   ((87, [qtN 7 60 60, (45, (.negSucc 2147483647), (.ofNat 0)), qtN 49 1 1, qtN 77 0 10, qtN 78 0 11], [((.ofNat 0), [(7, (.negSucc 0)), (83, (.ofNat 1))]), ((.ofNat 0), [(7, (.ofNat 1)), (83, (.negSucc 0))]), ((.ofNat 0), [(6, (.negSucc 0)), (85, (.ofNat 1))]), ((.ofNat 0), [(6, (.ofNat 1)), (85, (.negSucc 0))])], [qvK (.negSucc 3)], zh67, [(0, [9, 10, 11, 12], []), (0, [4, 5, 6, 7], []), (13, [], [(sL 49), (sL 6), (sL 86), (sL 7), (sL 84), (sL 7), (sL 84), (sL 6), (sL 86)]), (8, [9, 10, 11, 12], [(sL 7), (sL 84)]), (8, [4, 5, 6, 7], [(sL 6), (sL 86)]), (12, [], [(sL 77), (sL 78), (sL 79), (sL 80), ((.ofNat 1), [])])]), 0, 0),
   ((87, [qtN 45 1 2147483647, qtN 77 0 10, qtN 78 0 11], [], [qvK (.negSucc 2)], zh67, [(0, [9, 10, 11, 12], []), (0, [4, 5, 6, 7], []), (12, [], [(sL 77), (sL 78), (sL 79), (sL 80), ((.ofNat 1), [])]), (8, [9, 10, 11, 12], [(sL 7), (sL 81)]), (8, [4, 5, 6, 7], [(sL 6), (sL 82)]), (13, [], [(sL 49), (sL 6), (sL 82), (sL 7), (sL 81), (sL 83), (sL 84), (sL 85), (sL 86)])]), 0, 0)])
noncomputable def c15_0_e : List Ct := [c16_0, c18_0]
noncomputable def c15_0_pts : List PE := []
set_option maxRecDepth 100000 in
theorem c15_0_k : enCtF c15_0 c15_0_e (pkP (c15_0_pts ++ []) []) (none) ((hOr (atPc 42 fLo) (hOr (atPc 74 (fLc 0 1 1 15)) (atPc 56 (fLc 0 1 1 15)))), noM, 0, 18889537993470665293824, 87) 3000 = true := by decide +kernel
set_option maxRecDepth 100000 in
theorem c15_0_v : ValidC PPk c15_0 := ct_ok fpk ⟨(hOr_ok (atPc_ok fLo_ok) (hOr_ok (atPc_ok (fLc_ok 0 1 1 15)) (atPc_ok (fLc_ok 0 1 1 15)))), noM_ok⟩ (d := 3) (ext := []) (pts := c15_0_pts) (env := c15_0_e) rfl (List.forall_mem_cons.mpr ⟨⟨c16_0_v, Nat.le_of_ble_eq_true rfl⟩, List.forall_mem_cons.mpr ⟨⟨c18_0_v, Nat.le_of_ble_eq_true rfl⟩, fun _ h => (by cases h)⟩⟩) ext_nil (fun q h => (by cases h)) (enF c15_0_k) (fun _ h => (by cases h))

noncomputable def c147_0 : Ct := (147, 2, (4, [qtA 0, qtA 1, qtA 2, qtA 3], [], [qvS 0, qvS 1, qvS 2, qvS 3], [], [(12, [], [(sL 0), (sL 1), (sL 2), (sL 3), ((.ofNat 0), [])])]),
  [((4, [], [], [qvK (.ofNat 0)], [], [(12, [], [(sL 0), (sL 1), (sL 2), (sL 3), ((.ofNat 0), [])])]), 0, 0)])
noncomputable def c147_0_e : List Ct := [c145_0]
noncomputable def c147_0_pts : List PE := []
set_option maxRecDepth 100000 in
theorem c147_0_k : enCtF c147_0 c147_0_e (pkP (c147_0_pts ++ []) []) (none) ((hOr (atPc 23 (fCut 0 (.ofNat 6))) (hOr (atPc 21 (fIsF 0 1 2 3)) (hOr (atPc 81 (fIsF 0 1 2 3)) (hOr (atPc 89 (fIsF 0 1 2 3)) (hOr (atPc 96 (fIsF 0 1 2 3)) (hOr (atPc 104 (fIsF 0 1 2 3)) (hOr (atPc 112 (fIsF 0 1 2 3)) (atPc 138 (fIsF 0 1 2 3))))))))), noM, 0, 348449148939700104275360443221563582447616, 4) 3000 = true := by decide +kernel
set_option maxRecDepth 100000 in
theorem c147_0_v : ValidC PPk c147_0 := ct_ok fpk ⟨(hOr_ok (atPc_ok (fCut_ok 0 (.ofNat 6))) (hOr_ok (atPc_ok (fIsF_ok 0 1 2 3)) (hOr_ok (atPc_ok (fIsF_ok 0 1 2 3)) (hOr_ok (atPc_ok (fIsF_ok 0 1 2 3)) (hOr_ok (atPc_ok (fIsF_ok 0 1 2 3)) (hOr_ok (atPc_ok (fIsF_ok 0 1 2 3)) (hOr_ok (atPc_ok (fIsF_ok 0 1 2 3)) (atPc_ok (fIsF_ok 0 1 2 3))))))))), noM_ok⟩ (d := 1) (ext := []) (pts := c147_0_pts) (env := c147_0_e) rfl (List.forall_mem_cons.mpr ⟨⟨c145_0_v, Nat.le_of_ble_eq_true rfl⟩, fun _ h => (by cases h)⟩) ext_nil (fun q h => (by cases h)) (enF c147_0_k) (fun _ h => (by cases h))

noncomputable def zt5 (r : TbL) : TbL := qtN 0 0 69 :: qtN 1 0 69 :: qtN 2 0 8 :: qtA 3 :: qtA 4 :: qtA 5 :: qtA 6 :: qtA 7 :: qtA 8 :: qtA 9 :: r
noncomputable def zh72 : AH := [zc46, qkC 100 10, qkC 100 11, qkC 103 12, qkC 100 13, qkC 100 14, qkC 100 15, qjC 1 70, qjC 1 8, qkC 100 16, qkC 100 17, qkC 100 18, qkC 100 19, qkC 100 20, qjC 1 4]
noncomputable def c146_0 : Ct := (146, 3, (25, (zt5 [qtA 21, qtA 22, qtA 23, qtA 24]), [], [qvR 0, qvS 21, qvS 22, qvS 23, qvS 24], zh72, [(2, [1], []), (1, [1], []), (12, [], [(sL 21), (sL 22), (sL 23), (sL 24), ((.ofNat 0), [])])]),
  [((25, [], [], [qvK (.negSucc 1)], zh72, [(2, [1], []), (1, [1], []), (12, [], [(sL 21), (sL 22), (sL 23), (sL 24), ((.ofNat 0), [])])]), 0, 0)])
noncomputable def c146_0_e : List Ct := [c147_0]
noncomputable def c146_0_pts : List PE := []
set_option maxRecDepth 100000 in
theorem c146_0_k : enCtF c146_0 c146_0_e (pkP (c146_0_pts ++ []) []) (none) noH 3000 = true := by decide +kernel
set_option maxRecDepth 100000 in
theorem c146_0_v : ValidC PPk c146_0 := ct_ok fpk noH_ok (d := 2) (ext := []) (pts := c146_0_pts) (env := c146_0_e) rfl (List.forall_mem_cons.mpr ⟨⟨c147_0_v, Nat.le_of_ble_eq_true rfl⟩, fun _ h => (by cases h)⟩) ext_nil (fun q h => (by cases h)) (enF c146_0_k) (fun _ h => (by cases h))

noncomputable def c147_1 : Ct := (147, 2, (4, [qtA 0, qtA 1, qtA 2, qtA 3], [], [qvS 0, qvS 1, qvS 2, qvS 3], [], [(12, [], [(sL 0), (sL 1), (sL 2), (sL 3), ((.ofNat 1), [])])]),
  [((4, [qtN 0 0 10, qtN 1 0 11], [], [qvK (.ofNat 1)], [], [(12, [], [(sL 0), (sL 1), (sL 2), (sL 3), ((.ofNat 1), [])])]), 0, 0)])
noncomputable def c147_1_e : List Ct := [c145_0]
noncomputable def c147_1_pts : List PE := []
set_option maxRecDepth 100000 in
theorem c147_1_k : enCtF c147_1 c147_1_e (pkP (c147_1_pts ++ []) []) (none) ((hOr (atPc 23 (fCut 0 (.ofNat 6))) (hOr (atPc 21 (fIsF 0 1 2 3)) (hOr (atPc 81 (fIsF 0 1 2 3)) (hOr (atPc 89 (fIsF 0 1 2 3)) (hOr (atPc 96 (fIsF 0 1 2 3)) (hOr (atPc 104 (fIsF 0 1 2 3)) (hOr (atPc 112 (fIsF 0 1 2 3)) (atPc 138 (fIsF 0 1 2 3))))))))), noM, 0, 348449148939700104275360443221563582447616, 4) 3000 = true := by decide +kernel
set_option maxRecDepth 100000 in
theorem c147_1_v : ValidC PPk c147_1 := ct_ok fpk ⟨(hOr_ok (atPc_ok (fCut_ok 0 (.ofNat 6))) (hOr_ok (atPc_ok (fIsF_ok 0 1 2 3)) (hOr_ok (atPc_ok (fIsF_ok 0 1 2 3)) (hOr_ok (atPc_ok (fIsF_ok 0 1 2 3)) (hOr_ok (atPc_ok (fIsF_ok 0 1 2 3)) (hOr_ok (atPc_ok (fIsF_ok 0 1 2 3)) (hOr_ok (atPc_ok (fIsF_ok 0 1 2 3)) (atPc_ok (fIsF_ok 0 1 2 3))))))))), noM_ok⟩ (d := 1) (ext := []) (pts := c147_1_pts) (env := c147_1_e) rfl (List.forall_mem_cons.mpr ⟨⟨c145_0_v, Nat.le_of_ble_eq_true rfl⟩, fun _ h => (by cases h)⟩) ext_nil (fun q h => (by cases h)) (enF c147_1_k) (fun _ h => (by cases h))

noncomputable def zh73 : AH := [zc46, qiC 0 [qgS 10, .inl ((.ofNat 1), [(11, (.ofNat 1))]), qgS 12, qgS 13, qgS 14, qgS 15, qgS 16, qgS 17, qgA 5, qgN 1 0 3, qgS 18, qgA 2, qgN 1 1 1000, qgN 1 0 50, qgA 1, qgS 19, qgA 21, qgS 20, qgA 39, qgS 21, qgA 39, qgS 22, qgA 39, qgS 23, qgA 517, qgN 12 0 60, qgN 1 0 5, qgN 1 0 39, qgN 1 0 40, qgN 1 0 5, qgN 1 0 39, qgN 1 0 40, qgN 1 0 5, qgN 1 0 39, qgN 1 0 40, qgN 1 0 5, qgN 1 0 39, qgN 1 0 40, qgN 1 0 5, qgN 1 0 39, qgN 1 0 40, qgN 1 0 5, qgN 1 0 39, qgN 1 0 40, qgN 1 0 5, qgN 1 0 39, qgN 1 0 40, qgN 1 0 5, qgN 1 0 39, qgN 1 0 40, qgA 78, qgN 1 0 5, qgA 4, qgN 1 0 5, qgA 4, qgN 1 0 5, qgA 4, qgN 1 0 5, qgA 4, qgN 1 0 5, qgA 4, qgN 1 0 5, qgA 4, qgN 1 0 5, qgA 4, qgN 1 0 5, qgA 2, qgN 60 0 127, qgA 18], qkC 100 24, qkC 103 25, qkC 100 26, qkC 100 27, qkC 100 28, qjC 1 70, qjC 1 8, qkC 100 29, qkC 100 30, qkC 100 31, qkC 100 32, qkC 100 33, qjC 1 4]
noncomputable def c148_0 : Ct := (148, 1, (40, (zt5 [qtN 10 1 4, qtN 11 0 59, qtN 12 0 8, qtN 13 0 6, qtN 14 0 8, qtN 15 0 60, qtN 16 0 60, qtN 17 0 10, qtA 18, qtA 19, qtN 20 0 1, qtN 21 0 1, qtN 22 0 1, qtN 23 0 1, qtA 34, qtA 35, qtA 36, qtA 37]), [((.ofNat 1), [(20, (.negSucc 0)), (21, (.negSucc 0)), (22, (.negSucc 0)), (23, (.negSucc 0))])], [qvR 0, qvK (.ofNat 200), qvK (.ofNat 1), qvS 34, qvS 35, qvS 36, qvS 37], zh48, [(2, [1], []), (1, [1], []), (9, [1], [((.ofNat 440), []), (sL 16), (sL 38)]), (9, [1], [((.ofNat 200), []), (sL 11), (sL 39)]), (12, [], [(sL 34), (sL 35), (sL 36), (sL 37), ((.ofNat 1), [])])]),
  [((40, [], [], [.inl (false, ((.ofNat 1), [(11, (.ofNat 1))]))], zh73, [(1, [1], []), (2, [1], []), (9, [1], [((.ofNat 200), []), ((.ofNat 1), [(11, (.ofNat 1))]), ((.ofNat 0), [(34, (.ofNat 29791)), (35, (.ofNat 961)), (36, (.ofNat 31)), (37, (.ofNat 1)), (39, (.ofNat 923521))])]), (9, [1], [((.ofNat 440), []), (sL 16), (sL 38)]), (12, [], [(sL 34), (sL 35), (sL 36), (sL 37), ((.ofNat 1), [])])]), 0, 0)])
noncomputable def c148_0_e : List Ct := []
noncomputable def c148_0_pts : List PE := []
set_option maxRecDepth 100000 in
theorem c148_0_k : enCtF c148_0 c148_0_e (pkP (c148_0_pts ++ []) []) (some (11, 0, 60)) ((hOr (hOpen 12 307 1) (hOr (atPc 13 fCn) (hOr (atPc 53 fCi) (atPc 54 fCl)))), noM, 0, 27021597764235264, 40) 3000 = true := by decide +kernel
set_option maxRecDepth 100000 in
theorem c148_0_v : ValidC PPk c148_0 := ct_ok fpk ⟨(hOr_ok (hOpen_ok 12 307 1) (hOr_ok (atPc_ok fCn_ok) (hOr_ok (atPc_ok fCi_ok) (atPc_ok fCl_ok)))), noM_ok⟩ (d := 0) (ext := []) (pts := c148_0_pts) (env := c148_0_e) rfl (fun _ h => (by cases h)) ext_nil (fun q h => (by cases h; exact Nat.le_of_ble_eq_true rfl)) (enF c148_0_k) (fun _ h => (by cases h))

noncomputable def c146_1 : Ct := (146, 3, (40, (zt2 [qtA 34, qtA 35, qtA 36, qtA 37]), [((.ofNat 1), [(20, (.negSucc 0)), (21, (.negSucc 0)), (22, (.negSucc 0)), (23, (.negSucc 0))])], [qvR 0, qvS 34, qvS 35, qvS 36, qvS 37], zh48, [(2, [1], []), (1, [1], []), (9, [1], [((.ofNat 440), []), (sL 16), (sL 38)]), (9, [1], [((.ofNat 200), []), (sL 11), (sL 39)]), (12, [], [(sL 34), (sL 35), (sL 36), (sL 37), ((.ofNat 1), [])])]),
  [((40, [qtN 11 0 59, (18, (.negSucc 2147483647), (.ofNat 0)), qtN 34 0 10, qtN 35 0 11], [], [qvS 11], zh73, [(1, [1], []), (2, [1], []), (9, [1], [((.ofNat 200), []), ((.ofNat 1), [(11, (.ofNat 1))]), ((.ofNat 0), [(34, (.ofNat 29791)), (35, (.ofNat 961)), (36, (.ofNat 31)), (37, (.ofNat 1)), (39, (.ofNat 923521))])]), (9, [1], [((.ofNat 440), []), (sL 16), (sL 38)]), (12, [], [(sL 34), (sL 35), (sL 36), (sL 37), ((.ofNat 1), [])])]), 0, 0),
   ((40, [qtN 11 60 60, (18, (.negSucc 2147483647), (.ofNat 0)), qtN 34 0 10, qtN 35 0 11], [], [qvK (.negSucc 3)], zh48, [(2, [1], []), (1, [1], []), (12, [], [(sL 34), (sL 35), (sL 36), (sL 37), ((.ofNat 1), [])]), (9, [1], [((.ofNat 440), []), (sL 16), (sL 38)]), (9, [1], [((.ofNat 200), []), (sL 11), (sL 39)])]), 0, 0),
   ((40, [qtN 18 1 2147483647, qtN 34 0 10, qtN 35 0 11], [], [qvK (.negSucc 2)], zh48, [(2, [1], []), (1, [1], []), (12, [], [(sL 34), (sL 35), (sL 36), (sL 37), ((.ofNat 1), [])]), (9, [1], [((.ofNat 440), []), (sL 16), (sL 38)]), (9, [1], [((.ofNat 200), []), (sL 11), (sL 39)])]), 0, 0)])
noncomputable def c146_1_e : List Ct := [c147_1, c148_0]
noncomputable def c146_1_pts : List PE := []
set_option maxRecDepth 100000 in
theorem c146_1_k : enCtF c146_1 c146_1_e (pkP (c146_1_pts ++ []) []) (none) noH 3000 = true := by decide +kernel
set_option maxRecDepth 100000 in
theorem c146_1_v : ValidC PPk c146_1 := ct_ok fpk noH_ok (d := 2) (ext := []) (pts := c146_1_pts) (env := c146_1_e) rfl (List.forall_mem_cons.mpr ⟨⟨c147_1_v, Nat.le_of_ble_eq_true rfl⟩, List.forall_mem_cons.mpr ⟨⟨c148_0_v, Nat.le_of_ble_eq_true rfl⟩, fun _ h => (by cases h)⟩⟩) ext_nil (fun q h => (by cases h)) (enF c146_1_k) (fun _ h => (by cases h))

noncomputable def zt6 (r : TbL) : TbL := qtN 0 1 4 :: qtA 1 :: qtA 2 :: qtN 3 1 1000 :: qtN 4 0 50 :: qtN 5 0 10 :: qtN 6 0 60 :: qtN 11 0 60 :: qtN 16 0 8 :: qtN 22 0 6 :: qtN 29 0 60 :: qtA 30 :: qtN 31 0 60 :: qtN 32 0 60 :: qtN 35 0 8 :: qtA 44 :: qtA 45 :: qtA 46 :: qtA 47 :: qtA 48 :: qtA 49 :: qtN 50 0 3 :: qtA 51 :: qtA 52 :: qtA 53 :: qtA 54 :: qtN 55 0 1 :: qtA 56 :: qtA 57 :: qtA 58 :: qtA 59 :: qtA 60 :: qtA 62 :: qtA 63 :: qtA 64 :: qtA 65 :: qtA 67 :: qtA 68 :: qtA 69 :: qtA 70 :: qtA 72 :: qtA 73 :: qtA 74 :: qtA 75 :: qtA 77 :: r
noncomputable def zc74 : AC := qoC 4 [qvS 22, qvR 22, qvR 23, qvR 24, qvR 25]
noncomputable def zc75 : AC := qoC 5 [qvS 29, qvR 29, qvS 30, qvS 31, qvS 32, qvR 30, qvR 31]
noncomputable def zc76 : AC := qoC 6 [qvS 35, qvR 33, qvR 34, qvR 35, qvR 36, qvR 37]
noncomputable def zc77 : AC := qoC 7 [qvR 42, qvS 44, qvR 51, qvR 55, qvR 56, qvS 45, qvS 46, qvS 47, qvS 48, qvS 49, qvS 50, qvS 51, qvS 52, qvS 53, qvS 54, qvS 55, qvS 56]
noncomputable def zc78 : AC := qoC 8 [qvR 44, qvS 57, qvS 58, qvS 59, qvS 60]
noncomputable def zc79 : AC := qoC 8 [qvR 46, qvS 62, qvS 63, qvS 64, qvS 65]
noncomputable def zc80 : AC := qoC 8 [qvR 50, qvS 72, qvS 73, qvS 74, qvS 75]
noncomputable def zc81 : AC := qoC 9 [qvR 52, qvR 53, qvR 54, qvS 77]
noncomputable def zh82 : AH := [zc12, zc31, qrC 4 [some 3, some 8], zc32, qkC 100 7, qkC 100 8, qkC 100 9, qkC 100 10, zc33, qkC 100 12, qkC 100 13, qkC 100 14, qkC 100 15, zc34, qiC 0 [qgN 6 0 60], qiC 0 [qgN 6 0 60], qkC 100 17, qkC 100 18, qkC 100 19, qkC 100 20, qkC 100 21, zc74, qkC 100 23, qkC 100 24, qkC 100 25, qkC 100 26, qkC 100 27, qkC 100 28, zc75, qkC 102 33, qkC 100 34, qjC 1 60, zc76, qkC 100 36, qkC 100 37, qkC 100 38, qkC 100 39, qkC 100 40, qkC 100 41, qkC 100 42, qkC 100 43, zc77, zc39, zc78, qkC 100 61, zc79, qkC 100 66, zc42, qkC 100 71, zc80, qkC 100 76, zc81, qkC 100 78, qkC 100 79, qkC 100 80, qkC 100 81, qkC 100 82, zc13, qjC 1 6, qjC 1 4, qrC 6 [none, none], qrC 7 [none, none]]
noncomputable def c19_0 : Ct := (19, 2, (86, (zt6 [qtA 83, qtA 84, qtA 85]), [], [qvR 0, qvS 83, qvS 84, qvS 85], zh82, [(0, [9, 10, 11, 12], []), (0, [4, 5, 6, 7], [])]),
  [((87, [(86, (.negSucc 1), (.ofNat 1))], [], [qvS 86], zh82, [(0, [9, 10, 11, 12], []), (0, [4, 5, 6, 7], [])]), 0, 0)])
noncomputable def c19_0_e : List Ct := [c12_0]
noncomputable def c19_0_pts : List PE := []
set_option maxRecDepth 100000 in
theorem c19_0_k : enCtF c19_0 c19_0_e (pkP (c19_0_pts ++ []) []) (none) noH 3000 = true := by decide +kernel
set_option maxRecDepth 100000 in
theorem c19_0_v : ValidC PPk c19_0 := ct_ok fpk noH_ok (d := 1) (ext := []) (pts := c19_0_pts) (env := c19_0_e) rfl (List.forall_mem_cons.mpr ⟨⟨c12_0_v, Nat.le_of_ble_eq_true rfl⟩, fun _ h => (by cases h)⟩) ext_nil (fun q h => (by cases h)) (enF c19_0_k) (fun _ h => (by cases h))

noncomputable def c149_0 : Ct := (149, 2, (39, (zt2 [qtA 34, qtA 35, qtA 36]), [((.ofNat 1), [(20, (.negSucc 0)), (21, (.negSucc 0)), (22, (.negSucc 0)), (23, (.negSucc 0))])], [qvR 0, qvS 34, qvS 35, qvS 36], zh48, [(2, [1], []), (1, [1], []), (9, [1], [((.ofNat 440), []), (sL 16), (sL 37)]), (9, [1], [((.ofNat 200), []), (sL 11), (sL 38)])]),
  [((40, [(39, (.negSucc 1), (.ofNat 1))], [], [qvS 39], zh48, [(2, [1], []), (1, [1], []), (9, [1], [((.ofNat 440), []), (sL 16), (sL 37)]), (9, [1], [((.ofNat 200), []), (sL 11), (sL 38)])]), 0, 0)])
noncomputable def c149_0_e : List Ct := [c145_0]
noncomputable def c149_0_pts : List PE := []
set_option maxRecDepth 100000 in
theorem c149_0_k : enCtF c149_0 c149_0_e (pkP (c149_0_pts ++ []) []) (none) noH 3000 = true := by decide +kernel
set_option maxRecDepth 100000 in
theorem c149_0_v : ValidC PPk c149_0 := ct_ok fpk noH_ok (d := 1) (ext := []) (pts := c149_0_pts) (env := c149_0_e) rfl (List.forall_mem_cons.mpr ⟨⟨c145_0_v, Nat.le_of_ble_eq_true rfl⟩, fun _ h => (by cases h)⟩) ext_nil (fun q h => (by cases h)) (enF c149_0_k) (fun _ h => (by cases h))

noncomputable def zc83 : AC := qoC 3 [qvR 1, qvR 2, qvS 0, qvR 3, qvR 4, qvR 5]
noncomputable def zh84 : AH := [zc83, qkC 100 1, qkC 100 2, qkC 100 3, qiC 0 [qgN 8 0 39], qiC 0 [qgN 8 0 40]]
noncomputable def c21_0 : Ct := (21, 1, (6, [qtN 0 0 8, qtA 4, qtA 5], [], [qvR 0, qvS 4, qvS 5], zh84, []),
  [((7, [qtN 6 0 1], [], [qvS 6], zh84, []), 0, 0)])
noncomputable def c21_0_e : List Ct := []
noncomputable def c21_0_p0 : PE := (12, [0, 1, 2, 3], (7, [qtN 0 0 8, qtA 4, qtA 5, qtN 6 0 8], [], [qvR 0, qvS 4, qvS 5, qvS 6], zh84, []), symsL 6 0, some ((.ofNat 17), [(6, (.negSucc 0))]), 0, 0)
noncomputable def c21_0_pts : List PE := [c21_0_p0]
set_option maxRecDepth 100000 in
theorem c21_0_k : enCtF c21_0 c21_0_e (pkP (c21_0_pts ++ []) [0]) (none) (noF, noM, 4096, 0, 6) 3000 = true := by decide +kernel
set_option maxRecDepth 100000 in
theorem c21_0_k0 : ptCtF c21_0 c21_0_e (pkP (c21_0_pts ++ []) [0]) (noF, noM, 4096, 0, 6) 3000 c21_0_p0 = true := by decide +kernel
set_option maxRecDepth 100000 in
theorem c21_0_v : ValidC PPk c21_0 := ct_ok fpk ⟨noF_ok, noM_ok⟩ (d := 0) (ext := []) (pts := c21_0_pts) (env := c21_0_e) rfl (fun _ h => (by cases h)) ext_nil (fun q h => (by cases h)) (enF c21_0_k) (List.forall_mem_cons.mpr ⟨⟨_, ptF c21_0_k0⟩, fun _ h => (by cases h)⟩)

noncomputable def zh85 : AH := [zc83, qkC 100 1, qkC 100 2, qiC 0 [qgN 8 0 5], qiC 0 [qgN 8 0 39], qiC 0 [qgN 8 0 40]]
noncomputable def c22_0 : Ct := (22, 1, (6, [qtN 0 0 8, qtN 3 0 5, qtN 4 0 39, qtN 5 1 40], [], [qvR 0, qvS 3, qvS 4, qvS 5], zh85, []),
  [((7, [qtN 6 1 8], [], [], [qoC 3 [qvR 1, qvR 2, qvS 6, qvR 3, qvR 4, qvR 5], qkC 100 1, qkC 100 2, qiC 0 [qgN 8 0 5], qiC 0 [qgN 8 0 39], qiC 0 [qgN 8 0 40]], []), 0, 0)])
noncomputable def c22_0_e : List Ct := []
noncomputable def c22_0_p0 : PE := (16, [0, 1, 2, 3, 4], (7, [qtN 0 0 7, qtN 3 0 5, qtN 4 0 39, qtN 5 1 40, qtN 6 0 7], [], [qvR 0, qvS 3, qvS 4, qvS 5, qvS 6], zh85, []), symsL 6 0, some ((.ofNat 8), [(6, (.ofNat 1))]), 0, 0)
noncomputable def c22_0_pts : List PE := [c22_0_p0]
set_option maxRecDepth 100000 in
theorem c22_0_k : enCtF c22_0 c22_0_e (pkP (c22_0_pts ++ []) [0]) (none) (noF, noM, 65536, 0, 6) 3000 = true := by decide +kernel
set_option maxRecDepth 100000 in
theorem c22_0_k0 : ptCtF c22_0 c22_0_e (pkP (c22_0_pts ++ []) [0]) (noF, noM, 65536, 0, 6) 3000 c22_0_p0 = true := by decide +kernel
set_option maxRecDepth 100000 in
theorem c22_0_v : ValidC PPk c22_0 := ct_ok fpk ⟨noF_ok, noM_ok⟩ (d := 0) (ext := []) (pts := c22_0_pts) (env := c22_0_e) rfl (fun _ h => (by cases h)) ext_nil (fun q h => (by cases h)) (enF c22_0_k) (List.forall_mem_cons.mpr ⟨⟨_, ptF c22_0_k0⟩, fun _ h => (by cases h)⟩)

noncomputable def zc86 : AC := qoC 4 [qvS 21, qvR 22, qvR 23, qvR 24, qvR 25]
noncomputable def zc87 : AC := qoC 5 [qvS 28, qvR 29, qvS 29, qvS 30, qvS 31, qvR 30, qvR 31]
noncomputable def zc88 : AC := qoC 6 [qvS 34, qvR 33, qvR 34, qvR 35, qvR 36, qvR 37]
noncomputable def zc89 : AC := qoC 7 [qvR 42, qvS 43, qvR 51, qvR 55, qvR 56, qvS 44, qvS 45, qvS 46, qvS 47, qvS 48, qvS 49, qvS 50, qvS 51, qvS 52, qvS 53, qvS 54, qvS 55]
noncomputable def zc90 : AC := qoC 8 [qvR 44, qvS 56, qvS 57, qvS 58, qvS 59]
noncomputable def zc91 : AC := qoC 8 [qvR 46, qvS 61, qvS 62, qvS 63, qvS 64]
noncomputable def zc92 : AC := qoC 8 [qvR 48, qvS 66, qvS 67, qvS 68, qvS 69]
noncomputable def zc93 : AC := qoC 9 [qvR 52, qvR 53, qvR 54, qvS 76]
noncomputable def c20_0 : Ct := (20, 2, (85, [qtN 0 1 4, qtA 1, qtA 2, qtN 3 1 1000, qtN 4 0 50, qtN 5 0 10, qtN 6 0 60, qtN 11 0 60, qtN 16 0 8, qtN 21 0 6, qtN 28 0 60, qtA 29, qtN 30 0 60, qtN 31 0 60, qtN 34 0 8, qtA 43, qtA 44, qtA 45, qtA 46, qtA 47, qtA 48, qtN 49 0 3, qtA 50, qtA 51, qtA 52, qtA 53, qtN 54 0 1, qtA 55, qtA 56, qtA 57, qtA 58, qtA 59, qtA 61, qtA 62, qtA 63, qtA 64, qtA 66, qtA 67, qtA 68, qtA 69, qtA 71, qtA 72, qtA 73, qtA 74, qtA 76, qtA 82, qtA 83, qtA 84], [], [qvR 0, qvS 82, qvS 83, qvS 84], [zc12, zc31, qrC 4 [some 3, some 8], zc32, qkC 100 7, qkC 100 8, qkC 100 9, qkC 100 10, zc33, qkC 100 12, qkC 100 13, qkC 100 14, qkC 100 15, zc34, qkC 100 17, qkC 100 18, qiC 0 [qgN 8 0 5], qiC 0 [qgN 8 0 39], qiC 0 [qgN 8 0 40], qkC 100 19, qkC 100 20, zc86, qkC 100 22, qkC 100 23, qkC 100 24, qkC 100 25, qkC 100 26, qkC 100 27, zc87, qkC 102 32, qkC 100 33, qjC 1 60, zc88, qkC 100 35, qkC 100 36, qkC 100 37, qkC 100 38, qkC 100 39, qkC 100 40, qkC 100 41, qkC 100 42, zc89, zc39, zc90, qkC 100 60, zc91, qkC 100 65, zc92, qkC 100 70, zc43, qkC 100 75, zc93, qkC 100 77, qkC 100 78, qkC 100 79, qkC 100 80, qkC 100 81, zc13, qjC 1 6, qjC 1 4, qrC 6 [none, none], qrC 7 [none, none]], [(0, [9, 10, 11, 12], []), (0, [4, 5, 6, 7], [])]),
  [((87, [(85, (.negSucc 3), (.ofNat 7)), qtN 86 0 8], [], [qvS 85], [zc12, zc31, qrC 4 [some 3, some 8], zc32, qkC 100 7, qkC 100 8, qkC 100 9, qkC 100 10, zc33, qkC 100 12, qkC 100 13, qkC 100 14, qkC 100 15, qoC 3 [qvR 14, qvR 15, qvS 86, qvR 16, qvR 17, qvR 18], qkC 100 17, qkC 100 18, qiC 0 [qgN 8 0 5], qiC 0 [qgN 8 0 39], qiC 0 [qgN 8 0 40], qkC 100 19, qkC 100 20, zc86, qkC 100 22, qkC 100 23, qkC 100 24, qkC 100 25, qkC 100 26, qkC 100 27, zc87, qkC 102 32, qkC 100 33, qjC 1 60, zc88, qkC 100 35, qkC 100 36, qkC 100 37, qkC 100 38, qkC 100 39, qkC 100 40, qkC 100 41, qkC 100 42, zc89, zc39, zc90, qkC 100 60, zc91, qkC 100 65, zc92, qkC 100 70, zc43, qkC 100 75, zc93, qkC 100 77, qkC 100 78, qkC 100 79, qkC 100 80, qkC 100 81, zc13, qjC 1 6, qjC 1 4, qrC 6 [none, none], qrC 7 [none, none]], [(0, [9, 10, 11, 12], []), (0, [4, 5, 6, 7], [])]), 0, 0)])
noncomputable def c20_0_e : List Ct := [c12_0, c21_0, c22_0]
noncomputable def c20_0_pts : List PE := []
set_option maxRecDepth 100000 in
theorem c20_0_k : enCtF c20_0 c20_0_e (pkP (c20_0_pts ++ []) []) (none) noH 3000 = true := by decide +kernel
set_option maxRecDepth 100000 in
theorem c20_0_v : ValidC PPk c20_0 := ct_ok fpk noH_ok (d := 1) (ext := []) (pts := c20_0_pts) (env := c20_0_e) rfl (List.forall_mem_cons.mpr ⟨⟨c12_0_v, Nat.le_of_ble_eq_true rfl⟩, List.forall_mem_cons.mpr ⟨⟨c21_0_v, Nat.le_of_ble_eq_true rfl⟩, List.forall_mem_cons.mpr ⟨⟨c22_0_v, Nat.le_of_ble_eq_true rfl⟩, fun _ h => (by cases h)⟩⟩⟩) ext_nil (fun q h => (by cases h)) (enF c20_0_k) (fun _ h => (by cases h))

noncomputable def zt7 (r : TbL) : TbL := qtN 0 0 69 :: qtN 1 0 69 :: qtN 2 0 8 :: qtA 3 :: qtA 4 :: qtA 5 :: qtA 6 :: qtA 7 :: qtA 8 :: qtA 9 :: qtN 10 1 4 :: qtN 11 0 60 :: qtN 12 1 1 :: qtN 13 0 6 :: qtN 14 0 8 :: qtN 15 0 60 :: qtN 16 0 60 :: qtN 17 0 10 :: qtA 18 :: qtA 19 :: qtN 20 0 1 :: qtN 21 0 1 :: qtN 22 0 1 :: qtN 23 0 1 :: r
noncomputable def zt8 (r : TbL) : TbL := qtN 0 0 69 :: qtN 1 0 69 :: qtN 2 0 8 :: qtA 3 :: qtA 4 :: qtA 5 :: qtA 6 :: qtA 7 :: qtA 8 :: qtA 9 :: qtN 10 1 4 :: qtN 11 0 60 :: qtN 12 2 2 :: qtN 13 0 6 :: qtN 14 0 8 :: qtN 15 0 60 :: qtN 16 0 60 :: qtN 17 0 10 :: qtA 18 :: qtA 19 :: qtN 20 0 1 :: qtN 21 0 1 :: qtN 22 0 1 :: qtN 23 0 1 :: r
noncomputable def zt9 (r : TbL) : TbL := qtN 0 0 69 :: qtN 1 0 69 :: qtN 2 0 8 :: qtA 3 :: qtA 4 :: qtA 5 :: qtA 6 :: qtA 7 :: qtA 8 :: qtA 9 :: qtN 10 1 4 :: qtN 11 0 60 :: qtN 12 3 3 :: qtN 13 0 6 :: qtN 14 0 8 :: qtN 15 0 60 :: qtN 16 0 60 :: qtN 17 0 10 :: qtA 18 :: qtA 19 :: qtN 20 0 1 :: qtN 21 0 1 :: qtN 22 0 1 :: qtN 23 0 1 :: r
noncomputable def zt10 (r : TbL) : TbL := qtN 0 0 69 :: qtN 1 0 69 :: qtN 2 0 8 :: qtA 3 :: qtA 4 :: qtA 5 :: qtA 6 :: qtA 7 :: qtA 8 :: qtA 9 :: qtN 10 1 4 :: qtN 11 0 60 :: qtN 12 4 4 :: qtN 13 0 6 :: qtN 14 0 8 :: qtN 15 0 60 :: qtN 16 0 60 :: qtN 17 0 10 :: qtA 18 :: qtA 19 :: qtN 20 0 1 :: qtN 21 0 1 :: qtN 22 0 1 :: qtN 23 0 1 :: r
noncomputable def zt11 (r : TbL) : TbL := qtN 0 0 69 :: qtN 1 0 69 :: qtN 2 0 8 :: qtA 3 :: qtA 4 :: qtA 5 :: qtA 6 :: qtA 7 :: qtA 8 :: qtA 9 :: qtN 10 1 4 :: qtN 11 0 60 :: qtN 12 5 5 :: qtN 13 0 6 :: qtN 14 0 8 :: qtN 15 0 60 :: qtN 16 0 60 :: qtN 17 0 10 :: qtA 18 :: qtA 19 :: qtN 20 0 1 :: qtN 21 0 1 :: qtN 22 0 1 :: qtN 23 0 1 :: r
noncomputable def zt12 (r : TbL) : TbL := qtN 0 0 69 :: qtN 1 0 69 :: qtN 2 0 8 :: qtA 3 :: qtA 4 :: qtA 5 :: qtA 6 :: qtA 7 :: qtA 8 :: qtA 9 :: qtN 10 1 4 :: qtN 11 0 60 :: qtN 12 6 6 :: qtN 13 0 6 :: qtN 14 0 8 :: qtN 15 0 60 :: qtN 16 0 60 :: qtN 17 0 10 :: qtA 18 :: qtA 19 :: qtN 20 0 1 :: qtN 21 0 1 :: qtN 22 0 1 :: qtN 23 0 1 :: r
noncomputable def zt13 (r : TbL) : TbL := qtN 0 0 69 :: qtN 1 0 69 :: qtN 2 0 8 :: qtA 3 :: qtA 4 :: qtA 5 :: qtA 6 :: qtA 7 :: qtA 8 :: qtA 9 :: qtN 10 1 4 :: qtN 11 0 60 :: qtN 12 7 7 :: qtN 13 0 6 :: qtN 14 0 8 :: qtN 15 0 60 :: qtN 16 0 60 :: qtN 17 0 10 :: qtA 18 :: qtA 19 :: qtN 20 0 1 :: qtN 21 0 1 :: qtN 22 0 1 :: qtN 23 0 1 :: r
noncomputable def zt14 (r : TbL) : TbL := qtN 0 0 69 :: qtN 1 0 69 :: qtN 2 0 8 :: qtA 3 :: qtA 4 :: qtA 5 :: qtA 6 :: qtA 7 :: qtA 8 :: qtA 9 :: qtN 10 1 4 :: qtN 11 0 60 :: qtN 12 8 8 :: qtN 13 0 6 :: qtN 14 0 8 :: qtN 15 0 60 :: qtN 16 0 60 :: qtN 17 0 10 :: qtA 18 :: qtA 19 :: qtN 20 0 1 :: qtN 21 0 1 :: qtN 22 0 1 :: qtN 23 0 1 :: r
noncomputable def c150_0 : Ct := (150, 2, (39, (zt2 [qtA 34, qtA 35, qtA 36]), [((.ofNat 1), [(20, (.negSucc 0)), (21, (.negSucc 0)), (22, (.negSucc 0)), (23, (.negSucc 0))])], [qvR 0, qvS 34, qvS 35, qvS 36], zh48, [(2, [1], []), (1, [1], []), (9, [1], [((.ofNat 440), []), (sL 16), (sL 37)]), (9, [1], [((.ofNat 200), []), (sL 11), (sL 38)])]),
  [((41, [(39, (.negSucc 3), (.ofNat 7)), qtN 40 0 8], [], [qvS 39], [zc46, qiC 0 [qgS 10, qgS 11, qgS 40, qgS 13, qgS 14, qgS 15, qgS 16, qgS 17, qgA 5, qgN 1 0 3, qgS 18, qgA 2, qgN 1 1 1000, qgN 1 0 50, qgA 1, qgS 19, qgA 21, qgS 20, qgA 39, qgS 21, qgA 39, qgS 22, qgA 39, qgS 23, qgA 517, qgN 12 0 60, qgN 1 0 5, qgN 1 0 39, qgN 1 0 40, qgN 1 0 5, qgN 1 0 39, qgN 1 0 40, qgN 1 0 5, qgN 1 0 39, qgN 1 0 40, qgN 1 0 5, qgN 1 0 39, qgN 1 0 40, qgN 1 0 5, qgN 1 0 39, qgN 1 0 40, qgN 1 0 5, qgN 1 0 39, qgN 1 0 40, qgN 1 0 5, qgN 1 0 39, qgN 1 0 40, qgN 1 0 5, qgN 1 0 39, qgN 1 0 40, qgA 76, qgA 2, qgN 1 0 5, qgA 2, qgA 2, qgN 1 0 5, qgA 2, qgA 2, qgN 1 0 5, qgA 2, qgA 2, qgN 1 0 5, qgA 2, qgA 2, qgN 1 0 5, qgA 2, qgA 2, qgN 1 0 5, qgA 2, qgA 2, qgN 1 0 5, qgA 2, qgA 2, qgN 1 0 5, qgA 2, qgN 60 0 127, qgA 18], qkC 100 24, qkC 103 25, qkC 100 26, qkC 100 27, qkC 100 28, qjC 1 70, qjC 1 8, qkC 100 29, qkC 100 30, qkC 100 31, qkC 100 32, qkC 100 33, qjC 1 4], [(2, [1], []), (1, [1], []), (9, [1], [((.ofNat 440), []), (sL 16), (sL 37)]), (9, [1], [((.ofNat 200), []), (sL 11), (sL 38)])]), 0, 0)])
noncomputable def c150_0_e : List Ct := [c145_0]
noncomputable def c150_0_p0 : PE := (46, [0, 1, 2, 3, 4], (39, (zt5 [qtN 10 1 4, qtN 11 0 60, qtN 12 0 0, qtN 13 0 6, qtN 14 0 8, qtN 15 0 60, qtN 16 0 60, qtN 17 0 10, qtA 18, qtA 19, qtN 20 0 1, qtN 21 0 1, qtN 22 0 1, qtN 23 0 1, qtN 34 0 5, qtN 35 0 39, qtN 36 1 40]), [((.negSucc 39), [(35, (.ofNat 1)), (36, (.ofNat 1))]), ((.ofNat 1), [(20, (.negSucc 0)), (21, (.negSucc 0)), (22, (.negSucc 0)), (23, (.negSucc 0))])], [qvR 0, qvS 34, qvS 35, qvS 36, qvK (.ofNat 0)], zh48, [(2, [1], []), (1, [1], []), (9, [1], [((.ofNat 440), []), (sL 16), (sL 37)]), (9, [1], [((.ofNat 200), []), (sL 11), (sL 38)])]), symsL 39 0, some ((.ofNat 17), []), 0, 0)
noncomputable def c150_0_p1 : PE := (46, [0, 1, 2, 3, 4], (39, (zt7 [qtN 34 0 5, qtN 35 0 39, qtN 36 1 40]), [((.negSucc 39), [(35, (.ofNat 1)), (36, (.ofNat 1))]), ((.ofNat 1), [(20, (.negSucc 0)), (21, (.negSucc 0)), (22, (.negSucc 0)), (23, (.negSucc 0))])], [qvR 0, qvS 34, qvS 35, qvS 36, qvK (.ofNat 0)], zh48, [(2, [1], []), (1, [1], []), (9, [1], [((.ofNat 440), []), (sL 16), (sL 37)]), (9, [1], [((.ofNat 200), []), (sL 11), (sL 38)])]), symsL 39 0, some ((.ofNat 17), []), 0, 0)
noncomputable def c150_0_p2 : PE := (46, [0, 1, 2, 3, 4, 5], (39, (zt7 [qtN 34 0 5, qtN 35 0 39, qtN 36 1 40]), [((.negSucc 39), [(35, (.ofNat 1)), (36, (.ofNat 1))]), ((.ofNat 1), [(20, (.negSucc 0)), (21, (.negSucc 0)), (22, (.negSucc 0)), (23, (.negSucc 0))])], [qvR 0, qvS 34, qvS 35, qvS 36, qvK (.ofNat 1), qvK (.ofNat 692)], zh48, [(2, [1], []), (1, [1], []), (9, [1], [((.ofNat 440), []), (sL 16), (sL 37)]), (9, [1], [((.ofNat 200), []), (sL 11), (sL 38)])]), symsL 39 0, some ((.ofNat 16), []), 0, 0)
noncomputable def c150_0_p3 : PE := (46, [0, 1, 2, 3, 4], (39, (zt8 [qtN 34 0 5, qtN 35 0 39, qtN 36 1 40]), [((.negSucc 39), [(35, (.ofNat 1)), (36, (.ofNat 1))]), ((.ofNat 1), [(20, (.negSucc 0)), (21, (.negSucc 0)), (22, (.negSucc 0)), (23, (.negSucc 0))])], [qvR 0, qvS 34, qvS 35, qvS 36, qvK (.ofNat 0)], zh48, [(2, [1], []), (1, [1], []), (9, [1], [((.ofNat 440), []), (sL 16), (sL 37)]), (9, [1], [((.ofNat 200), []), (sL 11), (sL 38)])]), symsL 39 0, some ((.ofNat 17), []), 0, 0)
noncomputable def c150_0_p4 : PE := (46, [0, 1, 2, 3, 4, 5], (41, (zt8 [qtN 34 0 5, qtN 35 0 39, qtN 36 1 40, qtN 39 1 2, qtN 40 692 695]), [((.negSucc 39), [(35, (.ofNat 1)), (36, (.ofNat 1))]), ((.ofNat 1), [(20, (.negSucc 0)), (21, (.negSucc 0)), (22, (.negSucc 0)), (23, (.negSucc 0))])], [qvR 0, qvS 34, qvS 35, qvS 36, qvS 39, qvS 40], zh48, [(2, [1], []), (1, [1], []), (9, [1], [((.ofNat 440), []), (sL 16), (sL 37)]), (9, [1], [((.ofNat 200), []), (sL 11), (sL 38)])]), symsL 39 0, some ((.ofNat 17), [(39, (.negSucc 0))]), 0, 0)
noncomputable def c150_0_p5 : PE := (46, [0, 1, 2, 3, 4], (39, (zt9 [qtN 34 0 5, qtN 35 0 39, qtN 36 1 40]), [((.negSucc 39), [(35, (.ofNat 1)), (36, (.ofNat 1))]), ((.ofNat 1), [(20, (.negSucc 0)), (21, (.negSucc 0)), (22, (.negSucc 0)), (23, (.negSucc 0))])], [qvR 0, qvS 34, qvS 35, qvS 36, qvK (.ofNat 0)], zh48, [(2, [1], []), (1, [1], []), (9, [1], [((.ofNat 440), []), (sL 16), (sL 37)]), (9, [1], [((.ofNat 200), []), (sL 11), (sL 38)])]), symsL 39 0, some ((.ofNat 17), []), 0, 0)
noncomputable def c150_0_p6 : PE := (46, [0, 1, 2, 3, 4, 5], (41, (zt9 [qtN 34 0 5, qtN 35 0 39, qtN 36 1 40, qtN 39 1 3, qtN 40 692 698]), [((.negSucc 39), [(35, (.ofNat 1)), (36, (.ofNat 1))]), ((.ofNat 1), [(20, (.negSucc 0)), (21, (.negSucc 0)), (22, (.negSucc 0)), (23, (.negSucc 0))])], [qvR 0, qvS 34, qvS 35, qvS 36, qvS 39, qvS 40], zh48, [(2, [1], []), (1, [1], []), (9, [1], [((.ofNat 440), []), (sL 16), (sL 37)]), (9, [1], [((.ofNat 200), []), (sL 11), (sL 38)])]), symsL 39 0, some ((.ofNat 17), [(39, (.negSucc 0))]), 0, 0)
noncomputable def c150_0_p7 : PE := (46, [0, 1, 2, 3, 4], (39, (zt10 [qtN 34 0 5, qtN 35 0 39, qtN 36 1 40]), [((.negSucc 39), [(35, (.ofNat 1)), (36, (.ofNat 1))]), ((.ofNat 1), [(20, (.negSucc 0)), (21, (.negSucc 0)), (22, (.negSucc 0)), (23, (.negSucc 0))])], [qvR 0, qvS 34, qvS 35, qvS 36, qvK (.ofNat 0)], zh48, [(2, [1], []), (1, [1], []), (9, [1], [((.ofNat 440), []), (sL 16), (sL 37)]), (9, [1], [((.ofNat 200), []), (sL 11), (sL 38)])]), symsL 39 0, some ((.ofNat 17), []), 0, 0)
noncomputable def c150_0_p8 : PE := (46, [0, 1, 2, 3, 4, 5], (41, (zt10 [qtN 34 0 5, qtN 35 0 39, qtN 36 1 40, qtN 39 1 4, qtN 40 692 910]), [((.negSucc 39), [(35, (.ofNat 1)), (36, (.ofNat 1))]), ((.ofNat 1), [(20, (.negSucc 0)), (21, (.negSucc 0)), (22, (.negSucc 0)), (23, (.negSucc 0))])], [qvR 0, qvS 34, qvS 35, qvS 36, qvS 39, qvS 40], zh48, [(2, [1], []), (1, [1], []), (9, [1], [((.ofNat 440), []), (sL 16), (sL 37)]), (9, [1], [((.ofNat 200), []), (sL 11), (sL 38)])]), symsL 39 0, some ((.ofNat 17), [(39, (.negSucc 0))]), 0, 0)
noncomputable def c150_0_p9 : PE := (46, [0, 1, 2, 3, 4], (39, (zt11 [qtN 34 0 5, qtN 35 0 39, qtN 36 1 40]), [((.negSucc 39), [(35, (.ofNat 1)), (36, (.ofNat 1))]), ((.ofNat 1), [(20, (.negSucc 0)), (21, (.negSucc 0)), (22, (.negSucc 0)), (23, (.negSucc 0))])], [qvR 0, qvS 34, qvS 35, qvS 36, qvK (.ofNat 0)], zh48, [(2, [1], []), (1, [1], []), (9, [1], [((.ofNat 440), []), (sL 16), (sL 37)]), (9, [1], [((.ofNat 200), []), (sL 11), (sL 38)])]), symsL 39 0, some ((.ofNat 17), []), 0, 0)
noncomputable def c150_0_p10 : PE := (46, [0, 1, 2, 3, 4, 5], (41, (zt11 [qtN 34 0 5, qtN 35 0 39, qtN 36 1 40, qtN 39 1 5, qtN 40 692 910]), [((.negSucc 39), [(35, (.ofNat 1)), (36, (.ofNat 1))]), ((.ofNat 1), [(20, (.negSucc 0)), (21, (.negSucc 0)), (22, (.negSucc 0)), (23, (.negSucc 0))])], [qvR 0, qvS 34, qvS 35, qvS 36, qvS 39, qvS 40], zh48, [(2, [1], []), (1, [1], []), (9, [1], [((.ofNat 440), []), (sL 16), (sL 37)]), (9, [1], [((.ofNat 200), []), (sL 11), (sL 38)])]), symsL 39 0, some ((.ofNat 17), [(39, (.negSucc 0))]), 0, 0)
noncomputable def c150_0_p11 : PE := (46, [0, 1, 2, 3, 4], (39, (zt12 [qtN 34 0 5, qtN 35 0 39, qtN 36 1 40]), [((.negSucc 39), [(35, (.ofNat 1)), (36, (.ofNat 1))]), ((.ofNat 1), [(20, (.negSucc 0)), (21, (.negSucc 0)), (22, (.negSucc 0)), (23, (.negSucc 0))])], [qvR 0, qvS 34, qvS 35, qvS 36, qvK (.ofNat 0)], zh48, [(2, [1], []), (1, [1], []), (9, [1], [((.ofNat 440), []), (sL 16), (sL 37)]), (9, [1], [((.ofNat 200), []), (sL 11), (sL 38)])]), symsL 39 0, some ((.ofNat 17), []), 0, 0)
noncomputable def c150_0_p12 : PE := (46, [0, 1, 2, 3, 4, 5], (41, (zt12 [qtN 34 0 5, qtN 35 0 39, qtN 36 1 40, qtN 39 1 6, qtN 40 692 910]), [((.negSucc 39), [(35, (.ofNat 1)), (36, (.ofNat 1))]), ((.ofNat 1), [(20, (.negSucc 0)), (21, (.negSucc 0)), (22, (.negSucc 0)), (23, (.negSucc 0))])], [qvR 0, qvS 34, qvS 35, qvS 36, qvS 39, qvS 40], zh48, [(2, [1], []), (1, [1], []), (9, [1], [((.ofNat 440), []), (sL 16), (sL 37)]), (9, [1], [((.ofNat 200), []), (sL 11), (sL 38)])]), symsL 39 0, some ((.ofNat 17), [(39, (.negSucc 0))]), 0, 0)
noncomputable def c150_0_p13 : PE := (46, [0, 1, 2, 3, 4], (39, (zt13 [qtN 34 0 5, qtN 35 0 39, qtN 36 1 40]), [((.negSucc 39), [(35, (.ofNat 1)), (36, (.ofNat 1))]), ((.ofNat 1), [(20, (.negSucc 0)), (21, (.negSucc 0)), (22, (.negSucc 0)), (23, (.negSucc 0))])], [qvR 0, qvS 34, qvS 35, qvS 36, qvK (.ofNat 0)], zh48, [(2, [1], []), (1, [1], []), (9, [1], [((.ofNat 440), []), (sL 16), (sL 37)]), (9, [1], [((.ofNat 200), []), (sL 11), (sL 38)])]), symsL 39 0, some ((.ofNat 17), []), 0, 0)
noncomputable def c150_0_p14 : PE := (46, [0, 1, 2, 3, 4, 5], (41, (zt13 [qtN 34 0 5, qtN 35 0 39, qtN 36 1 40, qtN 39 1 7, qtN 40 692 910]), [((.negSucc 39), [(35, (.ofNat 1)), (36, (.ofNat 1))]), ((.ofNat 1), [(20, (.negSucc 0)), (21, (.negSucc 0)), (22, (.negSucc 0)), (23, (.negSucc 0))])], [qvR 0, qvS 34, qvS 35, qvS 36, qvS 39, qvS 40], zh48, [(2, [1], []), (1, [1], []), (9, [1], [((.ofNat 440), []), (sL 16), (sL 37)]), (9, [1], [((.ofNat 200), []), (sL 11), (sL 38)])]), symsL 39 0, some ((.ofNat 17), [(39, (.negSucc 0))]), 0, 0)
noncomputable def c150_0_p15 : PE := (46, [0, 1, 2, 3, 4], (39, (zt14 [qtN 34 0 5, qtN 35 0 39, qtN 36 1 40]), [((.negSucc 39), [(35, (.ofNat 1)), (36, (.ofNat 1))]), ((.ofNat 1), [(20, (.negSucc 0)), (21, (.negSucc 0)), (22, (.negSucc 0)), (23, (.negSucc 0))])], [qvR 0, qvS 34, qvS 35, qvS 36, qvK (.ofNat 0)], zh48, [(2, [1], []), (1, [1], []), (9, [1], [((.ofNat 440), []), (sL 16), (sL 37)]), (9, [1], [((.ofNat 200), []), (sL 11), (sL 38)])]), symsL 39 0, some ((.ofNat 17), []), 0, 0)
noncomputable def c150_0_p16 : PE := (46, [0, 1, 2, 3, 4, 5], (41, (zt14 [qtN 34 0 5, qtN 35 0 39, qtN 36 1 40, qtN 39 1 8, qtN 40 692 910]), [((.negSucc 39), [(35, (.ofNat 1)), (36, (.ofNat 1))]), ((.ofNat 1), [(20, (.negSucc 0)), (21, (.negSucc 0)), (22, (.negSucc 0)), (23, (.negSucc 0))])], [qvR 0, qvS 34, qvS 35, qvS 36, qvS 39, qvS 40], zh48, [(2, [1], []), (1, [1], []), (9, [1], [((.ofNat 440), []), (sL 16), (sL 37)]), (9, [1], [((.ofNat 200), []), (sL 11), (sL 38)])]), symsL 39 0, some ((.ofNat 17), [(39, (.negSucc 0))]), 0, 0)
noncomputable def c150_0_pts : List PE := [c150_0_p0, c150_0_p1, c150_0_p2, c150_0_p3, c150_0_p4, c150_0_p5, c150_0_p6, c150_0_p7, c150_0_p8, c150_0_p9, c150_0_p10, c150_0_p11, c150_0_p12, c150_0_p13, c150_0_p14, c150_0_p15, c150_0_p16]
set_option maxRecDepth 100000 in
theorem c150_0_k : enCtF c150_0 c150_0_e (pkP (c150_0_pts ++ []) [0, 1, 3, 5, 7, 9, 11, 13, 15]) (some (12, 0, 9)) (noF, noM, 70368744177664, 0, 39) 3000 = true := by decide +kernel
set_option maxRecDepth 100000 in
theorem c150_0_k0 : ptCtF c150_0 c150_0_e (pkP (c150_0_pts ++ []) []) (noF, noM, 70368744177664, 0, 39) 3000 c150_0_p0 = true := by decide +kernel
set_option maxRecDepth 100000 in
theorem c150_0_k1 : ptCtF c150_0 c150_0_e (pkP (c150_0_pts ++ []) [2]) (noF, noM, 70368744177664, 0, 39) 3000 c150_0_p1 = true := by decide +kernel
set_option maxRecDepth 100000 in
theorem c150_0_k2 : ptCtF c150_0 c150_0_e (pkP (c150_0_pts ++ []) []) (noF, noM, 70368744177664, 0, 39) 3000 c150_0_p2 = true := by decide +kernel
set_option maxRecDepth 100000 in
theorem c150_0_k3 : ptCtF c150_0 c150_0_e (pkP (c150_0_pts ++ []) [4]) (noF, noM, 70368744177664, 0, 39) 3000 c150_0_p3 = true := by decide +kernel
set_option maxRecDepth 100000 in
theorem c150_0_k4 : ptCtF c150_0 c150_0_e (pkP (c150_0_pts ++ []) [4]) (noF, noM, 70368744177664, 0, 39) 3000 c150_0_p4 = true := by decide +kernel
set_option maxRecDepth 100000 in
theorem c150_0_k5 : ptCtF c150_0 c150_0_e (pkP (c150_0_pts ++ []) [6]) (noF, noM, 70368744177664, 0, 39) 3000 c150_0_p5 = true := by decide +kernel
set_option maxRecDepth 100000 in
theorem c150_0_k6 : ptCtF c150_0 c150_0_e (pkP (c150_0_pts ++ []) [6]) (noF, noM, 70368744177664, 0, 39) 3000 c150_0_p6 = true := by decide +kernel
set_option maxRecDepth 100000 in
theorem c150_0_k7 : ptCtF c150_0 c150_0_e (pkP (c150_0_pts ++ []) [8]) (noF, noM, 70368744177664, 0, 39) 3000 c150_0_p7 = true := by decide +kernel
set_option maxRecDepth 100000 in
theorem c150_0_k8 : ptCtF c150_0 c150_0_e (pkP (c150_0_pts ++ []) [8]) (noF, noM, 70368744177664, 0, 39) 3000 c150_0_p8 = true := by decide +kernel
set_option maxRecDepth 100000 in
theorem c150_0_k9 : ptCtF c150_0 c150_0_e (pkP (c150_0_pts ++ []) [10]) (noF, noM, 70368744177664, 0, 39) 3000 c150_0_p9 = true := by decide +kernel
set_option maxRecDepth 100000 in
theorem c150_0_k10 : ptCtF c150_0 c150_0_e (pkP (c150_0_pts ++ []) [10]) (noF, noM, 70368744177664, 0, 39) 3000 c150_0_p10 = true := by decide +kernel
set_option maxRecDepth 100000 in
theorem c150_0_k11 : ptCtF c150_0 c150_0_e (pkP (c150_0_pts ++ []) [12]) (noF, noM, 70368744177664, 0, 39) 3000 c150_0_p11 = true := by decide +kernel
set_option maxRecDepth 100000 in
theorem c150_0_k12 : ptCtF c150_0 c150_0_e (pkP (c150_0_pts ++ []) [12]) (noF, noM, 70368744177664, 0, 39) 3000 c150_0_p12 = true := by decide +kernel
set_option maxRecDepth 100000 in
theorem c150_0_k13 : ptCtF c150_0 c150_0_e (pkP (c150_0_pts ++ []) [14]) (noF, noM, 70368744177664, 0, 39) 3000 c150_0_p13 = true := by decide +kernel
set_option maxRecDepth 100000 in
theorem c150_0_k14 : ptCtF c150_0 c150_0_e (pkP (c150_0_pts ++ []) [14]) (noF, noM, 70368744177664, 0, 39) 3000 c150_0_p14 = true := by decide +kernel
set_option maxRecDepth 100000 in
theorem c150_0_k15 : ptCtF c150_0 c150_0_e (pkP (c150_0_pts ++ []) [16]) (noF, noM, 70368744177664, 0, 39) 3000 c150_0_p15 = true := by decide +kernel
set_option maxRecDepth 100000 in
theorem c150_0_k16 : ptCtF c150_0 c150_0_e (pkP (c150_0_pts ++ []) [16]) (noF, noM, 70368744177664, 0, 39) 3000 c150_0_p16 = true := by decide +kernel
set_option maxRecDepth 100000 in
theorem c150_0_v : ValidC PPk c150_0 := ct_ok fpk ⟨noF_ok, noM_ok⟩ (d := 1) (ext := []) (pts := c150_0_pts) (env := c150_0_e) rfl (List.forall_mem_cons.mpr ⟨⟨c145_0_v, Nat.le_of_ble_eq_true rfl⟩, fun _ h => (by cases h)⟩) ext_nil (fun q h => (by cases h; exact Nat.le_of_ble_eq_true rfl)) (enF c150_0_k) (List.forall_mem_cons.mpr ⟨⟨_, ptF c150_0_k0⟩, List.forall_mem_cons.mpr ⟨⟨_, ptF c150_0_k1⟩, List.forall_mem_cons.mpr ⟨⟨_, ptF c150_0_k2⟩, List.forall_mem_cons.mpr ⟨⟨_, ptF c150_0_k3⟩, List.forall_mem_cons.mpr ⟨⟨_, ptF c150_0_k4⟩, List.forall_mem_cons.mpr ⟨⟨_, ptF c150_0_k5⟩, List.forall_mem_cons.mpr ⟨⟨_, ptF c150_0_k6⟩, List.forall_mem_cons.mpr ⟨⟨_, ptF c150_0_k7⟩, List.forall_mem_cons.mpr ⟨⟨_, ptF c150_0_k8⟩, List.forall_mem_cons.mpr ⟨⟨_, ptF c150_0_k9⟩, List.forall_mem_cons.mpr ⟨⟨_, ptF c150_0_k10⟩, List.forall_mem_cons.mpr ⟨⟨_, ptF c150_0_k11⟩, List.forall_mem_cons.mpr ⟨⟨_, ptF c150_0_k12⟩, List.forall_mem_cons.mpr ⟨⟨_, ptF c150_0_k13⟩, List.forall_mem_cons.mpr ⟨⟨_, ptF c150_0_k14⟩, List.forall_mem_cons.mpr ⟨⟨_, ptF c150_0_k15⟩, List.forall_mem_cons.mpr ⟨⟨_, ptF c150_0_k16⟩, fun _ h => (by cases h)⟩⟩⟩⟩⟩⟩⟩⟩⟩⟩⟩⟩⟩⟩⟩⟩⟩)

noncomputable def zt15 (r : TbL) : TbL := qtN 0 1 4 :: qtA 1 :: qtA 2 :: qtN 3 1 1000 :: qtN 4 0 50 :: qtN 5 0 10 :: qtN 6 0 60 :: qtN 11 0 60 :: qtN 16 0 8 :: qtN 24 0 6 :: qtN 31 0 60 :: qtA 32 :: qtN 33 0 60 :: qtN 34 0 60 :: qtN 37 0 8 :: qtA 46 :: qtA 47 :: qtA 48 :: qtA 49 :: qtA 50 :: qtA 51 :: qtN 52 0 3 :: qtA 53 :: qtA 54 :: qtA 55 :: qtA 56 :: qtN 57 0 1 :: qtA 58 :: qtA 59 :: qtA 60 :: qtA 61 :: qtA 62 :: qtA 64 :: qtA 65 :: qtA 66 :: qtA 67 :: qtA 69 :: qtA 70 :: qtA 71 :: qtA 72 :: qtA 74 :: qtA 75 :: qtA 76 :: qtA 77 :: qtA 79 :: r
noncomputable def zc94 : AC := qoC 8 [qvR 46, qvS 64, qvS 65, qvS 66, qvS 67]
noncomputable def zc95 : AC := qoC 8 [qvR 48, qvS 69, qvS 70, qvS 71, qvS 72]
noncomputable def zc96 : AC := qoC 8 [qvR 50, qvS 74, qvS 75, qvS 76, qvS 77]
noncomputable def zc97 : AC := qoC 9 [qvR 52, qvR 53, qvR 54, qvS 79]
noncomputable def zh98 : AH := [zc12, zc31, qrC 4 [some 3, some 8], zc32, qkC 100 7, qkC 100 8, qkC 100 9, qkC 100 10, zc33, qkC 100 12, qkC 100 13, qkC 100 14, qkC 100 15, zc34, qkC 100 17, qkC 100 18, qkC 100 19, qkC 100 20, qkC 100 21, qkC 100 22, qkC 100 23, zc35, qkC 100 25, qkC 100 26, qkC 100 27, qkC 100 28, qkC 100 29, qkC 100 30, zc36, qkC 102 35, qkC 100 36, qjC 1 60, zc37, qkC 100 38, qkC 100 39, qkC 100 40, qkC 100 41, qkC 100 42, qkC 100 43, qkC 100 44, qkC 100 45, zc38, zc39, zc40, qkC 100 63, zc94, qkC 100 68, zc95, qkC 100 73, zc96, qkC 100 78, zc97, qkC 100 80, qkC 100 81, qkC 100 82, qkC 100 83, qkC 100 84, zc13, qjC 1 6, qjC 1 4, qrC 6 [none, none], qrC 7 [none, none]]
noncomputable def c23_0 : Ct := (23, 1, (85, (zt15 []), [], [qvR 0], zh98, [(0, [9, 10, 11, 12], []), (0, [4, 5, 6, 7], [])]),
  [((85, [], [], [qvS 16], [zc12, zc31, qrC 4 [some 3, some 8], zc32, qkC 100 7, qkC 100 8, qkC 100 9, qkC 100 10, zc33, qkC 100 12, qkC 100 13, qkC 100 14, qkC 100 15, zc7, qkC 100 17, qkC 100 18, qkC 100 19, qkC 100 20, qkC 100 21, qkC 100 22, qkC 100 23, zc35, qkC 100 25, qkC 100 26, qkC 100 27, qkC 100 28, qkC 100 29, qkC 100 30, zc36, qkC 102 35, qkC 100 36, qjC 1 60, zc37, qkC 100 38, qkC 100 39, qkC 100 40, qkC 100 41, qkC 100 42, qkC 100 43, qkC 100 44, qkC 100 45, zc38, zc39, zc40, qkC 100 63, zc94, qkC 100 68, zc95, qkC 100 73, zc96, qkC 100 78, zc97, qkC 100 80, qkC 100 81, qkC 100 82, qkC 100 83, qkC 100 84, zc13, qjC 1 6, qjC 1 4, qrC 6 [none, none], qrC 7 [none, none]], [(0, [9, 10, 11, 12], []), (0, [4, 5, 6, 7], [])]), 0, 0)])
noncomputable def c23_0_e : List Ct := []
noncomputable def c23_0_pts : List PE := []
set_option maxRecDepth 100000 in
theorem c23_0_k : enCtF c23_0 c23_0_e (pkP (c23_0_pts ++ []) []) (none) noH 3000 = true := by decide +kernel
set_option maxRecDepth 100000 in
theorem c23_0_v : ValidC PPk c23_0 := ct_ok fpk noH_ok (d := 0) (ext := []) (pts := c23_0_pts) (env := c23_0_e) rfl (fun _ h => (by cases h)) ext_nil (fun q h => (by cases h)) (enF c23_0_k) (fun _ h => (by cases h))

noncomputable def c151_0 : Ct := (151, 1, (36, (zt2 []), [((.ofNat 1), [(20, (.negSucc 0)), (21, (.negSucc 0)), (22, (.negSucc 0)), (23, (.negSucc 0))])], [qvR 0], zh48, [(2, [1], []), (1, [1], []), (9, [1], [((.ofNat 440), []), (sL 16), (sL 34)]), (9, [1], [((.ofNat 200), []), (sL 11), (sL 35)])]),
  [((36, [], [], [qvS 12], [zc46, qiC 0 [qgS 10, qgS 11, .inl ((.ofNat 0), []), qgS 13, qgS 14, qgS 15, qgS 16, qgS 17, qgA 5, qgN 1 0 3, qgS 18, qgA 2, qgN 1 1 1000, qgN 1 0 50, qgA 1, qgS 19, qgA 21, qgS 20, qgA 39, qgS 21, qgA 39, qgS 22, qgA 39, qgS 23, qgA 517, qgN 12 0 60, qgN 1 0 5, qgN 1 0 39, qgN 1 0 40, qgN 1 0 5, qgN 1 0 39, qgN 1 0 40, qgN 1 0 5, qgN 1 0 39, qgN 1 0 40, qgN 1 0 5, qgN 1 0 39, qgN 1 0 40, qgN 1 0 5, qgN 1 0 39, qgN 1 0 40, qgN 1 0 5, qgN 1 0 39, qgN 1 0 40, qgN 1 0 5, qgN 1 0 39, qgN 1 0 40, qgN 1 0 5, qgN 1 0 39, qgN 1 0 40, qgA 76, qgA 2, qgN 1 0 5, qgA 2, qgA 2, qgN 1 0 5, qgA 2, qgA 2, qgN 1 0 5, qgA 2, qgA 2, qgN 1 0 5, qgA 2, qgA 2, qgN 1 0 5, qgA 2, qgA 2, qgN 1 0 5, qgA 2, qgA 2, qgN 1 0 5, qgA 2, qgA 2, qgN 1 0 5, qgA 2, qgN 60 0 127, qgA 18], qkC 100 24, qkC 103 25, qkC 100 26, qkC 100 27, qkC 100 28, qjC 1 70, qjC 1 8, qkC 100 29, qkC 100 30, qkC 100 31, qkC 100 32, qkC 100 33, qjC 1 4], [(2, [1], []), (1, [1], []), (9, [1], [((.ofNat 440), []), (sL 16), (sL 34)]), (9, [1], [((.ofNat 200), []), (sL 11), (sL 35)])]), 0, 0)])
noncomputable def c151_0_e : List Ct := []
noncomputable def c151_0_pts : List PE := []
set_option maxRecDepth 100000 in
theorem c151_0_k : enCtF c151_0 c151_0_e (pkP (c151_0_pts ++ []) []) (none) noH 3000 = true := by decide +kernel
set_option maxRecDepth 100000 in
theorem c151_0_v : ValidC PPk c151_0 := ct_ok fpk noH_ok (d := 0) (ext := []) (pts := c151_0_pts) (env := c151_0_e) rfl (fun _ h => (by cases h)) ext_nil (fun q h => (by cases h)) (enF c151_0_k) (fun _ h => (by cases h))

noncomputable def zh99 : AH := [zc12, zc31, qrC 4 [some 3, some 8], zc32, qkC 100 7, qkC 100 8, qkC 100 9, qkC 100 10, zc33, qkC 100 12, qkC 100 13, qkC 100 14, qkC 100 15, zc34, qkC 100 17, qkC 100 18, qkC 100 19, qkC 100 20, qkC 100 21, qiC 0 [qgA 8], qiC 0 [qgA 8], zc74, qkC 100 23, qkC 100 24, qkC 100 25, qkC 100 26, qkC 100 27, qkC 100 28, zc75, qkC 102 33, qkC 100 34, qjC 1 60, zc76, qkC 100 36, qkC 100 37, qkC 100 38, qkC 100 39, qkC 100 40, qkC 100 41, qkC 100 42, qkC 100 43, zc77, zc39, zc78, qkC 100 61, zc79, qkC 100 66, zc42, qkC 100 71, zc80, qkC 100 76, zc81, qkC 100 78, qkC 100 79, qkC 100 80, qkC 100 81, qkC 100 82, zc13, qjC 1 6, qjC 1 4, qrC 6 [none, none], qrC 7 [none, none]]
noncomputable def c24_0 : Ct := (24, 2, (86, (zt6 [qtA 83, qtA 84, qtA 85]), [], [qvR 0, qvS 83, qvS 84, qvS 85], zh99, [(0, [9, 10, 11, 12], []), (0, [4, 5, 6, 7], [])]),
  [((87, [(86, (.negSucc 1), (.ofNat 1))], [], [qvS 86], zh99, [(0, [9, 10, 11, 12], []), (0, [4, 5, 6, 7], [])]), 0, 0)])
noncomputable def c24_0_e : List Ct := [c12_0]
noncomputable def c24_0_pts : List PE := []
set_option maxRecDepth 100000 in
theorem c24_0_k : enCtF c24_0 c24_0_e (pkP (c24_0_pts ++ []) []) (none) noH 3000 = true := by decide +kernel
set_option maxRecDepth 100000 in
theorem c24_0_v : ValidC PPk c24_0 := ct_ok fpk noH_ok (d := 1) (ext := []) (pts := c24_0_pts) (env := c24_0_e) rfl (List.forall_mem_cons.mpr ⟨⟨c12_0_v, Nat.le_of_ble_eq_true rfl⟩, fun _ h => (by cases h)⟩) ext_nil (fun q h => (by cases h)) (enF c24_0_k) (fun _ h => (by cases h))

noncomputable def c152_0 : Ct := (152, 2, (39, (zt2 [qtA 34, qtA 35, qtA 36]), [((.ofNat 1), [(20, (.negSucc 0)), (21, (.negSucc 0)), (22, (.negSucc 0)), (23, (.negSucc 0))])], [qvR 0, qvS 34, qvS 35, qvS 36], zh48, [(2, [1], []), (1, [1], []), (9, [1], [((.ofNat 440), []), (sL 16), (sL 37)]), (9, [1], [((.ofNat 200), []), (sL 11), (sL 38)])]),
  [((40, [(39, (.negSucc 1), (.ofNat 1))], [], [qvS 39], zh48, [(2, [1], []), (1, [1], []), (9, [1], [((.ofNat 440), []), (sL 16), (sL 37)]), (9, [1], [((.ofNat 200), []), (sL 11), (sL 38)])]), 0, 0)])
noncomputable def c152_0_e : List Ct := [c145_0]
noncomputable def c152_0_pts : List PE := []
set_option maxRecDepth 100000 in
theorem c152_0_k : enCtF c152_0 c152_0_e (pkP (c152_0_pts ++ []) []) (none) noH 3000 = true := by decide +kernel
set_option maxRecDepth 100000 in
theorem c152_0_v : ValidC PPk c152_0 := ct_ok fpk noH_ok (d := 1) (ext := []) (pts := c152_0_pts) (env := c152_0_e) rfl (List.forall_mem_cons.mpr ⟨⟨c145_0_v, Nat.le_of_ble_eq_true rfl⟩, fun _ h => (by cases h)⟩) ext_nil (fun q h => (by cases h)) (enF c152_0_k) (fun _ h => (by cases h))

noncomputable def c25_0 : Ct := (25, 2, (87, (zt15 [qtA 85, qtA 86]), [], [qvR 0, qvS 85, qvS 86], zh98, [(0, [9, 10, 11, 12], []), (0, [4, 5, 6, 7], [])]),
  [((90, [(87, (.negSucc 1), (.ofNat 1)), qtA 88, qtA 89], [], [qvS 87], [zc12, qoC 1 [qvS 0, qvR 2, qvR 13, qvR 19, qvR 20, qvS 88, qvS 89, qvR 21, qvS 3, qvS 4, qvR 26, qvR 27, qvR 28, qvR 32, qvS 5, qvR 38, qvR 39, qvR 40], qrC 4 [some 3, some 8], zc32, qkC 100 7, qkC 100 8, qkC 100 9, qkC 100 10, zc33, qkC 100 12, qkC 100 13, qkC 100 14, qkC 100 15, zc34, qkC 100 17, qkC 100 18, qkC 100 19, qkC 100 20, qkC 100 21, qkC 100 22, qkC 100 23, zc35, qkC 100 25, qkC 100 26, qkC 100 27, qkC 100 28, qkC 100 29, qkC 100 30, zc36, qkC 102 35, qkC 100 36, qjC 1 60, zc37, qkC 100 38, qkC 100 39, qkC 100 40, qkC 100 41, qkC 100 42, qkC 100 43, qkC 100 44, qkC 100 45, zc38, zc39, zc40, qkC 100 63, zc94, qkC 100 68, zc95, qkC 100 73, zc96, qkC 100 78, zc97, qkC 100 80, qkC 100 81, qkC 100 82, qkC 100 83, qkC 100 84, zc13, qjC 1 6, qjC 1 4, qrC 6 [none, none], qrC 7 [none, none]], [(0, [9, 10, 11, 12], []), (0, [4, 5, 6, 7], [])]), 0, 0)])
noncomputable def c25_0_e : List Ct := [c12_0]
noncomputable def c25_0_pts : List PE := []
set_option maxRecDepth 100000 in
theorem c25_0_k : enCtF c25_0 c25_0_e (pkP (c25_0_pts ++ []) []) (none) noH 3000 = true := by decide +kernel
set_option maxRecDepth 100000 in
theorem c25_0_v : ValidC PPk c25_0 := ct_ok fpk noH_ok (d := 1) (ext := []) (pts := c25_0_pts) (env := c25_0_e) rfl (List.forall_mem_cons.mpr ⟨⟨c12_0_v, Nat.le_of_ble_eq_true rfl⟩, fun _ h => (by cases h)⟩) ext_nil (fun q h => (by cases h)) (enF c25_0_k) (fun _ h => (by cases h))

noncomputable def c153_0 : Ct := (153, 2, (38, (zt2 [qtA 34, qtA 35]), [((.ofNat 1), [(20, (.negSucc 0)), (21, (.negSucc 0)), (22, (.negSucc 0)), (23, (.negSucc 0))])], [qvR 0, qvS 34, qvS 35], zh48, [(2, [1], []), (1, [1], []), (9, [1], [((.ofNat 440), []), (sL 16), (sL 36)]), (9, [1], [((.ofNat 200), []), (sL 11), (sL 37)])]),
  [((39, [(38, (.negSucc 1), (.ofNat 1))], [], [qvS 38], zh48, [(2, [1], []), (1, [1], []), (9, [1], [((.ofNat 440), []), (sL 16), (sL 36)]), (9, [1], [((.ofNat 200), []), (sL 11), (sL 37)])]), 0, 0)])
noncomputable def c153_0_e : List Ct := [c145_0]
noncomputable def c153_0_pts : List PE := []
set_option maxRecDepth 100000 in
theorem c153_0_k : enCtF c153_0 c153_0_e (pkP (c153_0_pts ++ []) []) (none) noH 3000 = true := by decide +kernel
set_option maxRecDepth 100000 in
theorem c153_0_v : ValidC PPk c153_0 := ct_ok fpk noH_ok (d := 1) (ext := []) (pts := c153_0_pts) (env := c153_0_e) rfl (List.forall_mem_cons.mpr ⟨⟨c145_0_v, Nat.le_of_ble_eq_true rfl⟩, fun _ h => (by cases h)⟩) ext_nil (fun q h => (by cases h)) (enF c153_0_k) (fun _ h => (by cases h))

noncomputable def zc100 : AC := qoC 4 [qvS 0, qvR 1, qvR 2, qvR 3, qvR 4]
noncomputable def c27_0 : Ct := (27, 1, (5, [qtN 0 0 6, qtA 1, qtA 2, qtA 3, qtA 4], [], [qvR 0, qvS 1, qvS 2, qvS 3, qvS 4], [zc100, qiC 0 [qgA 6], qiC 0 [qgA 6], qiC 0 [qgA 6], qiC 0 [qgA 6]], []),
  [((6, [qtN 5 1 6], [], [], [qoC 4 [qvS 5, qvR 1, qvR 2, qvR 3, qvR 4], qiC 0 [qgA 6], qiC 0 [qgA 6], qiC 0 [qgA 6], qiC 0 [qgA 6]], []), 0, 0)])
noncomputable def c27_0_e : List Ct := []
noncomputable def c27_0_pts : List PE := []
set_option maxRecDepth 100000 in
theorem c27_0_k : enCtF c27_0 c27_0_e (pkP (c27_0_pts ++ []) []) (none) noH 3000 = true := by decide +kernel
set_option maxRecDepth 100000 in
theorem c27_0_v : ValidC PPk c27_0 := ct_ok fpk noH_ok (d := 0) (ext := []) (pts := c27_0_pts) (env := c27_0_e) rfl (fun _ h => (by cases h)) ext_nil (fun q h => (by cases h)) (enF c27_0_k) (fun _ h => (by cases h))

noncomputable def zt16 (r : TbL) : TbL := qtN 0 1 4 :: qtA 1 :: qtA 2 :: qtN 3 1 1000 :: qtN 4 0 50 :: qtN 5 0 10 :: qtN 6 0 60 :: qtN 11 0 60 :: qtN 16 0 8 :: qtN 24 0 6 :: qtN 27 0 60 :: qtA 28 :: qtN 29 0 60 :: qtN 30 0 60 :: qtN 33 0 8 :: qtA 42 :: qtA 43 :: qtA 44 :: qtA 45 :: qtA 46 :: qtA 47 :: qtN 48 0 3 :: qtA 49 :: qtA 50 :: qtA 51 :: qtA 52 :: qtN 53 0 1 :: qtA 54 :: qtA 55 :: qtA 56 :: qtA 57 :: qtA 58 :: qtA 60 :: qtA 61 :: qtA 62 :: qtA 63 :: qtA 65 :: qtA 66 :: qtA 67 :: qtA 68 :: qtA 70 :: qtA 71 :: qtA 72 :: qtA 73 :: qtA 75 :: r
noncomputable def zc101 : AC := qoC 5 [qvS 27, qvR 29, qvS 28, qvS 29, qvS 30, qvR 30, qvR 31]
noncomputable def zc102 : AC := qoC 6 [qvS 33, qvR 33, qvR 34, qvR 35, qvR 36, qvR 37]
noncomputable def zc103 : AC := qoC 7 [qvR 42, qvS 42, qvR 51, qvR 55, qvR 56, qvS 43, qvS 44, qvS 45, qvS 46, qvS 47, qvS 48, qvS 49, qvS 50, qvS 51, qvS 52, qvS 53, qvS 54]
noncomputable def zc104 : AC := qoC 8 [qvR 44, qvS 55, qvS 56, qvS 57, qvS 58]
noncomputable def zc105 : AC := qoC 8 [qvR 46, qvS 60, qvS 61, qvS 62, qvS 63]
noncomputable def zc106 : AC := qoC 8 [qvR 48, qvS 65, qvS 66, qvS 67, qvS 68]
noncomputable def zc107 : AC := qoC 8 [qvR 50, qvS 70, qvS 71, qvS 72, qvS 73]
noncomputable def c26_0 : Ct := (26, 2, (85, (zt16 [qtA 81, qtA 82, qtA 83, qtA 84]), [], [qvR 0, qvS 81, qvS 82, qvS 83, qvS 84], [zc12, zc31, qrC 4 [some 3, some 8], zc32, qkC 100 7, qkC 100 8, qkC 100 9, qkC 100 10, zc33, qkC 100 12, qkC 100 13, qkC 100 14, qkC 100 15, zc34, qkC 100 17, qkC 100 18, qkC 100 19, qkC 100 20, qkC 100 21, qkC 100 22, qkC 100 23, zc35, qiC 0 [qgA 6], qiC 0 [qgA 6], qiC 0 [qgA 6], qiC 0 [qgA 6], qkC 100 25, qkC 100 26, zc101, qkC 102 31, qkC 100 32, qjC 1 60, zc102, qkC 100 34, qkC 100 35, qkC 100 36, qkC 100 37, qkC 100 38, qkC 100 39, qkC 100 40, qkC 100 41, zc103, zc39, zc104, qkC 100 59, zc105, qkC 100 64, zc106, qkC 100 69, zc107, qkC 100 74, zc44, qkC 100 76, qkC 100 77, qkC 100 78, qkC 100 79, qkC 100 80, zc13, qjC 1 6, qjC 1 4, qrC 6 [none, none], qrC 7 [none, none]], [(0, [9, 10, 11, 12], []), (0, [4, 5, 6, 7], [])]),
  [((87, [(85, (.negSucc 3), (.ofNat 5)), qtN 86 0 6], [], [qvS 85], [zc12, zc31, qrC 4 [some 3, some 8], zc32, qkC 100 7, qkC 100 8, qkC 100 9, qkC 100 10, zc33, qkC 100 12, qkC 100 13, qkC 100 14, qkC 100 15, zc34, qkC 100 17, qkC 100 18, qkC 100 19, qkC 100 20, qkC 100 21, qkC 100 22, qkC 100 23, qoC 4 [qvS 86, qvR 22, qvR 23, qvR 24, qvR 25], qiC 0 [qgA 6], qiC 0 [qgA 6], qiC 0 [qgA 6], qiC 0 [qgA 6], qkC 100 25, qkC 100 26, zc101, qkC 102 31, qkC 100 32, qjC 1 60, zc102, qkC 100 34, qkC 100 35, qkC 100 36, qkC 100 37, qkC 100 38, qkC 100 39, qkC 100 40, qkC 100 41, zc103, zc39, zc104, qkC 100 59, zc105, qkC 100 64, zc106, qkC 100 69, zc107, qkC 100 74, zc44, qkC 100 76, qkC 100 77, qkC 100 78, qkC 100 79, qkC 100 80, zc13, qjC 1 6, qjC 1 4, qrC 6 [none, none], qrC 7 [none, none]], [(0, [9, 10, 11, 12], []), (0, [4, 5, 6, 7], [])]), 0, 0)])
noncomputable def c26_0_e : List Ct := [c12_0, c27_0]
noncomputable def c26_0_pts : List PE := []
set_option maxRecDepth 100000 in
theorem c26_0_k : enCtF c26_0 c26_0_e (pkP (c26_0_pts ++ []) []) (none) noH 3000 = true := by decide +kernel
set_option maxRecDepth 100000 in
theorem c26_0_v : ValidC PPk c26_0 := ct_ok fpk noH_ok (d := 1) (ext := []) (pts := c26_0_pts) (env := c26_0_e) rfl (List.forall_mem_cons.mpr ⟨⟨c12_0_v, Nat.le_of_ble_eq_true rfl⟩, List.forall_mem_cons.mpr ⟨⟨c27_0_v, Nat.le_of_ble_eq_true rfl⟩, fun _ h => (by cases h)⟩⟩) ext_nil (fun q h => (by cases h)) (enF c26_0_k) (fun _ h => (by cases h))

noncomputable def c154_0 : Ct := (154, 2, (40, (zt2 [qtA 34, qtA 35, qtA 36, qtA 37]), [((.ofNat 1), [(20, (.negSucc 0)), (21, (.negSucc 0)), (22, (.negSucc 0)), (23, (.negSucc 0))])], [qvR 0, qvS 34, qvS 35, qvS 36, qvS 37], zh48, [(2, [1], []), (1, [1], []), (9, [1], [((.ofNat 440), []), (sL 16), (sL 38)]), (9, [1], [((.ofNat 200), []), (sL 11), (sL 39)])]),
  [((42, [(40, (.negSucc 3), (.ofNat 5)), qtN 41 0 6], [], [qvS 40], [zc46, qiC 0 [qgS 10, qgS 11, qgS 12, qgS 41, qgS 14, qgS 15, qgS 16, qgS 17, qgA 5, qgN 1 0 3, qgS 18, qgA 2, qgN 1 1 1000, qgN 1 0 50, qgA 1, qgS 19, qgA 21, qgS 20, qgA 39, qgS 21, qgA 39, qgS 22, qgA 39, qgS 23, qgA 517, qgN 12 0 60, qgN 1 0 5, qgN 1 0 39, qgN 1 0 40, qgN 1 0 5, qgN 1 0 39, qgN 1 0 40, qgN 1 0 5, qgN 1 0 39, qgN 1 0 40, qgN 1 0 5, qgN 1 0 39, qgN 1 0 40, qgN 1 0 5, qgN 1 0 39, qgN 1 0 40, qgN 1 0 5, qgN 1 0 39, qgN 1 0 40, qgN 1 0 5, qgN 1 0 39, qgN 1 0 40, qgN 1 0 5, qgN 1 0 39, qgN 1 0 40, qgA 76, qgA 2, qgN 1 0 5, qgA 2, qgA 2, qgN 1 0 5, qgA 2, qgA 2, qgN 1 0 5, qgA 2, qgA 2, qgN 1 0 5, qgA 2, qgA 2, qgN 1 0 5, qgA 2, qgA 2, qgN 1 0 5, qgA 2, qgA 2, qgN 1 0 5, qgA 2, qgA 2, qgN 1 0 5, qgA 2, qgN 60 0 127, qgA 18], qkC 100 24, qkC 103 25, qkC 100 26, qkC 100 27, qkC 100 28, qjC 1 70, qjC 1 8, qkC 100 29, qkC 100 30, qkC 100 31, qkC 100 32, qkC 100 33, qjC 1 4], [(2, [1], []), (1, [1], []), (9, [1], [((.ofNat 440), []), (sL 16), (sL 38)]), (9, [1], [((.ofNat 200), []), (sL 11), (sL 39)])]), 0, 0)])
noncomputable def c154_0_e : List Ct := [c145_0]
noncomputable def c154_0_pts : List PE := []
set_option maxRecDepth 100000 in
theorem c154_0_k : enCtF c154_0 c154_0_e (pkP (c154_0_pts ++ []) []) (none) noH 3000 = true := by decide +kernel
set_option maxRecDepth 100000 in
theorem c154_0_v : ValidC PPk c154_0 := ct_ok fpk noH_ok (d := 1) (ext := []) (pts := c154_0_pts) (env := c154_0_e) rfl (List.forall_mem_cons.mpr ⟨⟨c145_0_v, Nat.le_of_ble_eq_true rfl⟩, fun _ h => (by cases h)⟩) ext_nil (fun q h => (by cases h)) (enF c154_0_k) (fun _ h => (by cases h))

noncomputable def c28_0 : Ct := (28, 2, (87, (zt15 [qtA 85, qtA 86]), [], [qvR 0, qvS 85, qvS 86], zh98, [(0, [9, 10, 11, 12], []), (0, [4, 5, 6, 7], [])]),
  [((90, [(87, (.negSucc 1), (.ofNat 1)), qtA 88, qtA 89], [], [qvS 87], [zc12, zc31, qrC 4 [some 3, some 8], zc32, qkC 100 7, qkC 100 8, qkC 100 9, qkC 100 10, zc33, qkC 100 12, qkC 100 13, qkC 100 14, qkC 100 15, zc34, qkC 100 17, qkC 100 18, qkC 100 19, qkC 100 20, qkC 100 21, qkC 100 22, qkC 100 23, zc35, qkC 100 25, qkC 100 26, qkC 100 27, qkC 100 28, qkC 100 29, qkC 100 30, zc36, qkC 102 35, qkC 100 36, qjC 1 60, zc37, qkC 100 38, qkC 100 39, qkC 100 40, qkC 100 41, qkC 100 42, qkC 100 43, qkC 100 44, qkC 100 45, qoC 7 [qvR 42, qvS 46, qvR 51, qvR 55, qvR 56, qvS 47, qvS 88, qvS 89, qvS 50, qvS 51, qvS 52, qvS 53, qvS 54, qvS 55, qvS 56, qvS 57, qvS 58], zc39, zc40, qkC 100 63, zc94, qkC 100 68, zc95, qkC 100 73, zc96, qkC 100 78, zc97, qkC 100 80, qkC 100 81, qkC 100 82, qkC 100 83, qkC 100 84, zc13, qjC 1 6, qjC 1 4, qrC 6 [none, none], qrC 7 [none, none]], [(0, [9, 10, 11, 12], []), (0, [4, 5, 6, 7], [])]), 0, 0)])
noncomputable def c28_0_e : List Ct := [c12_0]
noncomputable def c28_0_pts : List PE := []
set_option maxRecDepth 100000 in
theorem c28_0_k : enCtF c28_0 c28_0_e (pkP (c28_0_pts ++ []) []) (none) noH 3000 = true := by decide +kernel
set_option maxRecDepth 100000 in
theorem c28_0_v : ValidC PPk c28_0 := ct_ok fpk noH_ok (d := 1) (ext := []) (pts := c28_0_pts) (env := c28_0_e) rfl (List.forall_mem_cons.mpr ⟨⟨c12_0_v, Nat.le_of_ble_eq_true rfl⟩, fun _ h => (by cases h)⟩) ext_nil (fun q h => (by cases h)) (enF c28_0_k) (fun _ h => (by cases h))

noncomputable def c155_0 : Ct := (155, 2, (38, (zt2 [qtA 34, qtA 35]), [((.ofNat 1), [(20, (.negSucc 0)), (21, (.negSucc 0)), (22, (.negSucc 0)), (23, (.negSucc 0))])], [qvR 0, qvS 34, qvS 35], zh48, [(2, [1], []), (1, [1], []), (9, [1], [((.ofNat 440), []), (sL 16), (sL 36)]), (9, [1], [((.ofNat 200), []), (sL 11), (sL 37)])]),
  [((39, [(38, (.negSucc 1), (.ofNat 1))], [], [qvS 38], zh48, [(2, [1], []), (1, [1], []), (9, [1], [((.ofNat 440), []), (sL 16), (sL 36)]), (9, [1], [((.ofNat 200), []), (sL 11), (sL 37)])]), 0, 0)])
noncomputable def c155_0_e : List Ct := [c145_0]
noncomputable def c155_0_pts : List PE := []
set_option maxRecDepth 100000 in
theorem c155_0_k : enCtF c155_0 c155_0_e (pkP (c155_0_pts ++ []) []) (none) noH 3000 = true := by decide +kernel
set_option maxRecDepth 100000 in
theorem c155_0_v : ValidC PPk c155_0 := ct_ok fpk noH_ok (d := 1) (ext := []) (pts := c155_0_pts) (env := c155_0_e) rfl (List.forall_mem_cons.mpr ⟨⟨c145_0_v, Nat.le_of_ble_eq_true rfl⟩, fun _ h => (by cases h)⟩) ext_nil (fun q h => (by cases h)) (enF c155_0_k) (fun _ h => (by cases h))

noncomputable def c29_0 : Ct := (29, 2, (88, (zt15 [qtA 85, qtA 86, qtA 87]), [], [qvR 0, qvS 85, qvS 86, qvS 87], zh98, [(0, [9, 10, 11, 12], []), (0, [4, 5, 6, 7], [])]),
  [((92, [(88, (.negSucc 1), (.ofNat 1)), qtN 89 1 1000, qtN 90 0 50, qtA 91], [], [qvS 88], [zc12, qoC 1 [qvS 0, qvR 2, qvR 13, qvR 19, qvR 20, qvS 1, qvS 2, qvR 21, qvS 89, qvS 90, qvR 26, qvR 27, qvR 28, qvR 32, qvS 5, qvR 38, qvR 39, qvR 40], qrC 4 [some 3, some 8], zc32, qkC 100 7, qkC 100 8, qkC 100 9, qkC 100 10, zc33, qkC 100 12, qkC 100 13, qkC 100 14, qkC 100 15, zc34, qkC 100 17, qkC 100 18, qkC 100 19, qkC 100 20, qkC 100 21, qkC 100 22, qkC 100 23, zc35, qkC 100 25, qkC 100 26, qkC 100 27, qkC 100 28, qkC 100 29, qkC 100 30, zc36, qkC 102 35, qkC 100 36, qjC 1 60, zc37, qkC 100 38, qkC 100 39, qkC 100 40, qkC 100 41, qkC 100 42, qkC 100 43, qkC 100 44, qkC 100 45, qoC 7 [qvR 42, qvS 46, qvR 51, qvR 55, qvR 56, qvS 47, qvS 48, qvS 49, qvS 91, qvS 51, qvS 52, qvS 53, qvS 54, qvS 55, qvS 56, qvS 57, qvS 58], zc39, zc40, qkC 100 63, zc94, qkC 100 68, zc95, qkC 100 73, zc96, qkC 100 78, zc97, qkC 100 80, qkC 100 81, qkC 100 82, qkC 100 83, qkC 100 84, zc13, qjC 1 6, qjC 1 4, qrC 6 [none, none], qrC 7 [none, none]], [(0, [9, 10, 11, 12], []), (0, [4, 5, 6, 7], [])]), 0, 0)])
noncomputable def c29_0_e : List Ct := [c12_0]
noncomputable def c29_0_pts : List PE := []
set_option maxRecDepth 100000 in
theorem c29_0_k : enCtF c29_0 c29_0_e (pkP (c29_0_pts ++ []) []) (none) noH 3000 = true := by decide +kernel
set_option maxRecDepth 100000 in
theorem c29_0_v : ValidC PPk c29_0 := ct_ok fpk noH_ok (d := 1) (ext := []) (pts := c29_0_pts) (env := c29_0_e) rfl (List.forall_mem_cons.mpr ⟨⟨c12_0_v, Nat.le_of_ble_eq_true rfl⟩, fun _ h => (by cases h)⟩) ext_nil (fun q h => (by cases h)) (enF c29_0_k) (fun _ h => (by cases h))

noncomputable def c156_0 : Ct := (156, 2, (39, (zt2 [qtA 34, qtA 35, qtA 36]), [((.ofNat 1), [(20, (.negSucc 0)), (21, (.negSucc 0)), (22, (.negSucc 0)), (23, (.negSucc 0))])], [qvR 0, qvS 34, qvS 35, qvS 36], zh48, [(2, [1], []), (1, [1], []), (9, [1], [((.ofNat 440), []), (sL 16), (sL 37)]), (9, [1], [((.ofNat 200), []), (sL 11), (sL 38)])]),
  [((40, [(39, (.negSucc 1), (.ofNat 1))], [], [qvS 39], zh48, [(2, [1], []), (1, [1], []), (9, [1], [((.ofNat 440), []), (sL 16), (sL 37)]), (9, [1], [((.ofNat 200), []), (sL 11), (sL 38)])]), 0, 0)])
noncomputable def c156_0_e : List Ct := [c145_0]
noncomputable def c156_0_pts : List PE := []
set_option maxRecDepth 100000 in
theorem c156_0_k : enCtF c156_0 c156_0_e (pkP (c156_0_pts ++ []) []) (none) noH 3000 = true := by decide +kernel
set_option maxRecDepth 100000 in
theorem c156_0_v : ValidC PPk c156_0 := ct_ok fpk noH_ok (d := 1) (ext := []) (pts := c156_0_pts) (env := c156_0_e) rfl (List.forall_mem_cons.mpr ⟨⟨c145_0_v, Nat.le_of_ble_eq_true rfl⟩, fun _ h => (by cases h)⟩) ext_nil (fun q h => (by cases h)) (enF c156_0_k) (fun _ h => (by cases h))

noncomputable def zt17 (r : TbL) : TbL := qtN 0 1 4 :: qtA 1 :: qtA 2 :: qtN 3 1 1000 :: qtN 4 0 50 :: qtN 5 0 10 :: qtN 6 0 60 :: qtN 11 0 60 :: qtN 16 0 8 :: qtN 24 0 6 :: qtN 29 0 60 :: qtA 30 :: qtN 31 0 60 :: qtN 32 0 60 :: qtN 35 0 8 :: qtA 44 :: qtA 45 :: qtA 46 :: qtA 47 :: qtA 48 :: qtA 49 :: qtN 50 0 3 :: qtA 51 :: qtA 52 :: qtA 53 :: qtA 54 :: qtN 55 0 1 :: qtA 56 :: qtA 57 :: qtA 58 :: qtA 59 :: qtA 60 :: qtA 62 :: qtA 63 :: qtA 64 :: qtA 65 :: qtA 67 :: qtA 68 :: qtA 69 :: qtA 70 :: qtA 72 :: qtA 73 :: qtA 74 :: qtA 75 :: qtA 77 :: r
noncomputable def zh108 : AH := [zc12, zc31, qrC 4 [some 3, some 8], zc32, qkC 100 7, qkC 100 8, qkC 100 9, qkC 100 10, zc33, qkC 100 12, qkC 100 13, qkC 100 14, qkC 100 15, zc34, qkC 100 17, qkC 100 18, qkC 100 19, qkC 100 20, qkC 100 21, qkC 100 22, qkC 100 23, zc35, qkC 100 25, qkC 100 26, qkC 100 27, qkC 100 28, qiC 0 [qgA 4], qiC 0 [qgA 4], zc75, qkC 102 33, qkC 100 34, qjC 1 60, zc76, qkC 100 36, qkC 100 37, qkC 100 38, qkC 100 39, qkC 100 40, qkC 100 41, qkC 100 42, qkC 100 43, zc77, zc39, zc78, qkC 100 61, zc79, qkC 100 66, zc42, qkC 100 71, zc80, qkC 100 76, zc81, qkC 100 78, qkC 100 79, qkC 100 80, qkC 100 81, qkC 100 82, zc13, qjC 1 6, qjC 1 4, qrC 6 [none, none], qrC 7 [none, none]]
noncomputable def c30_0 : Ct := (30, 2, (86, (zt17 [qtA 83, qtA 84, qtA 85]), [], [qvR 0, qvS 83, qvS 84, qvS 85], zh108, [(0, [9, 10, 11, 12], []), (0, [4, 5, 6, 7], [])]),
  [((87, [(86, (.negSucc 1), (.ofNat 1))], [], [qvS 86], zh108, [(0, [9, 10, 11, 12], []), (0, [4, 5, 6, 7], [])]), 0, 0)])
noncomputable def c30_0_e : List Ct := [c12_0]
noncomputable def c30_0_pts : List PE := []
set_option maxRecDepth 100000 in
theorem c30_0_k : enCtF c30_0 c30_0_e (pkP (c30_0_pts ++ []) []) (none) noH 3000 = true := by decide +kernel
set_option maxRecDepth 100000 in
theorem c30_0_v : ValidC PPk c30_0 := ct_ok fpk noH_ok (d := 1) (ext := []) (pts := c30_0_pts) (env := c30_0_e) rfl (List.forall_mem_cons.mpr ⟨⟨c12_0_v, Nat.le_of_ble_eq_true rfl⟩, fun _ h => (by cases h)⟩) ext_nil (fun q h => (by cases h)) (enF c30_0_k) (fun _ h => (by cases h))

noncomputable def c157_0 : Ct := (157, 2, (39, (zt2 [qtA 34, qtA 35, qtA 36]), [((.ofNat 1), [(20, (.negSucc 0)), (21, (.negSucc 0)), (22, (.negSucc 0)), (23, (.negSucc 0))])], [qvR 0, qvS 34, qvS 35, qvS 36], zh48, [(2, [1], []), (1, [1], []), (9, [1], [((.ofNat 440), []), (sL 16), (sL 37)]), (9, [1], [((.ofNat 200), []), (sL 11), (sL 38)])]),
  [((40, [(39, (.negSucc 1), (.ofNat 1))], [], [qvS 39], zh48, [(2, [1], []), (1, [1], []), (9, [1], [((.ofNat 440), []), (sL 16), (sL 37)]), (9, [1], [((.ofNat 200), []), (sL 11), (sL 38)])]), 0, 0)])
noncomputable def c157_0_e : List Ct := [c145_0]
noncomputable def c157_0_pts : List PE := []
set_option maxRecDepth 100000 in
theorem c157_0_k : enCtF c157_0 c157_0_e (pkP (c157_0_pts ++ []) []) (none) noH 3000 = true := by decide +kernel
set_option maxRecDepth 100000 in
theorem c157_0_v : ValidC PPk c157_0 := ct_ok fpk noH_ok (d := 1) (ext := []) (pts := c157_0_pts) (env := c157_0_e) rfl (List.forall_mem_cons.mpr ⟨⟨c145_0_v, Nat.le_of_ble_eq_true rfl⟩, fun _ h => (by cases h)⟩) ext_nil (fun q h => (by cases h)) (enF c157_0_k) (fun _ h => (by cases h))

noncomputable def zc109 : AC := qoC 5 [qvS 0, qvR 1, qvS 1, qvS 2, qvS 3, qvR 2, qvR 3]
noncomputable def zc110 : AC := qoC 5 [qvS 0, qvR 1, qvS 1, qvS 5, qvS 3, qvR 2, qvR 3]
noncomputable def zh111 : AH := [zc110, qiC 2 [qgN 60 0 127], qkC 100 4, qjC 1 60]
noncomputable def zc112 : AC := qoC 5 [qvS 0, qvR 1, qvS 1, qvS 6, qvS 3, qvR 2, qvR 3]
noncomputable def c40_0 : Ct := (40, 1, (5, [qtN 0 0 60, qtA 1, qtN 2 0 60, qtN 3 0 60], [], [qvR 0], [zc109, qiC 2 [qgN 60 0 127], qkC 100 4, qjC 1 60], []),
  [((6, [qtN 5 0 60], [], [qvK (.negSucc 0)], zh111, []), 0, 0),
   ((7, [qtN 0 1 60, (1, (.negSucc 0), (.negSucc 0)), qtN 5 0 127, qtN 6 0 59], [((.ofNat 1), [(0, (.negSucc 0)), (6, (.ofNat 1))])], [qvS 5], [zc112, qiC 2 [qgN 60 0 127], qkC 100 4, qjC 1 60], []), 0, 0)])
noncomputable def c40_0_e : List Ct := []
noncomputable def c40_0_p0 : PE := (10, [0], (6, [qtN 0 0 60, (1, (.negSucc 0), (.negSucc 0)), qtN 2 0 60, qtN 3 0 60, qtN 5 0 60], [], [qvR 0], zh111, []), symsL 5 0, some ((.ofNat 121), [(5, (.negSucc 0))]), 0, 0)
noncomputable def c40_0_pts : List PE := [c40_0_p0]
set_option maxRecDepth 100000 in
theorem c40_0_k : enCtF c40_0 c40_0_e (pkP (c40_0_pts ++ []) [0]) (none) (noF, noM, 1024, 0, 5) 3000 = true := by decide +kernel
set_option maxRecDepth 100000 in
theorem c40_0_k0 : ptCtF c40_0 c40_0_e (pkP (c40_0_pts ++ []) [0]) (noF, noM, 1024, 0, 5) 3000 c40_0_p0 = true := by decide +kernel
set_option maxRecDepth 100000 in
theorem c40_0_v : ValidC PPk c40_0 := ct_ok fpk ⟨noF_ok, noM_ok⟩ (d := 0) (ext := []) (pts := c40_0_pts) (env := c40_0_e) rfl (fun _ h => (by cases h)) ext_nil (fun q h => (by cases h)) (enF c40_0_k) (List.forall_mem_cons.mpr ⟨⟨_, ptF c40_0_k0⟩, fun _ h => (by cases h)⟩)

noncomputable def zh113 : AH := [zc109, qkC 102 4, qkC 100 5, qjC 1 60]
noncomputable def c43_0 : Ct := (43, 1, (8, [qtN 0 0 60, qtA 1, qtN 2 0 60, qtN 3 0 60, qtA 6, qtA 7], [], [qvR 0, qvS 6, qvS 7], zh113, []),
  [((9, [qtA 8], [], [], [qoC 5 [qvS 0, qvR 1, qvS 8, qvS 2, qvS 3, qvR 2, qvR 3], qkC 102 4, qkC 100 5, qjC 1 60], []), 0, 0)])
noncomputable def c43_0_e : List Ct := []
noncomputable def c43_0_pts : List PE := []
set_option maxRecDepth 100000 in
theorem c43_0_k : enCtF c43_0 c43_0_e (pkP (c43_0_pts ++ []) []) (none) noH 3000 = true := by decide +kernel
set_option maxRecDepth 100000 in
theorem c43_0_v : ValidC PPk c43_0 := ct_ok fpk noH_ok (d := 0) (ext := []) (pts := c43_0_pts) (env := c43_0_e) rfl (fun _ h => (by cases h)) ext_nil (fun q h => (by cases h)) (enF c43_0_k) (fun _ h => (by cases h))

noncomputable def zh114 : AH := [qoC 5 [qvS 0, qvR 1, qvS 6, qvS 2, qvS 3, qvR 2, qvR 3], qkC 102 4, qkC 100 5, qjC 1 60]
noncomputable def c45_0 : Ct := (45, 2, (6, [qtN 0 0 60, qtA 1, qtN 2 0 60, qtN 3 0 60], [((.ofNat 1), [(0, (.negSucc 0)), (2, (.ofNat 1))])], [qvR 0, qvK (.ofNat 8)], zh113, []),
  [((7, [qtA 6], [], [], zh114, []), 0, 0)])
noncomputable def c45_0_e : List Ct := [c43_0]
noncomputable def c45_0_pts : List PE := []
set_option maxRecDepth 100000 in
theorem c45_0_k : enCtF c45_0 c45_0_e (pkP (c45_0_pts ++ []) []) (none) noH 3000 = true := by decide +kernel
set_option maxRecDepth 100000 in
theorem c45_0_v : ValidC PPk c45_0 := ct_ok fpk noH_ok (d := 1) (ext := []) (pts := c45_0_pts) (env := c45_0_e) rfl (List.forall_mem_cons.mpr ⟨⟨c43_0_v, Nat.le_of_ble_eq_true rfl⟩, fun _ h => (by cases h)⟩) ext_nil (fun q h => (by cases h)) (enF c45_0_k) (fun _ h => (by cases h))

noncomputable def c44_0 : Ct := (44, 1, (6, [qtN 0 0 60, qtA 1, qtN 2 0 60, qtN 3 0 60, qtA 5], [], [qvR 0, qvS 5], [zc109, qkC 102 4, qiC 0 [qgA 60], qjC 1 60], []),
  [((7, [qtN 6 1 60], [], [], [qoC 5 [qvS 0, qvR 1, qvS 1, qvS 2, qvS 6, qvR 2, qvR 3], qkC 102 4, qiC 0 [qgA 60], qjC 1 60], []), 0, 0)])
noncomputable def c44_0_e : List Ct := []
noncomputable def c44_0_pts : List PE := []
set_option maxRecDepth 100000 in
theorem c44_0_k : enCtF c44_0 c44_0_e (pkP (c44_0_pts ++ []) []) (none) noH 3000 = true := by decide +kernel
set_option maxRecDepth 100000 in
theorem c44_0_v : ValidC PPk c44_0 := ct_ok fpk noH_ok (d := 0) (ext := []) (pts := c44_0_pts) (env := c44_0_e) rfl (fun _ h => (by cases h)) ext_nil (fun q h => (by cases h)) (enF c44_0_k) (fun _ h => (by cases h))

noncomputable def zh115 : AH := [zc109, qiC 2 [qgN 60 0 127], qiC 0 [qgA 60], qjC 1 60]
noncomputable def zh116 : AH := [qoC 5 [qvS 0, qvR 1, qvS 4, qvS 5, qvS 6, qvR 2, qvR 3], qiC 2 [qgN 60 0 127], qiC 0 [qgA 60], qjC 1 60]
noncomputable def zh117 : AH := [zc110, qiC 2 [qgN 60 0 127], qiC 0 [qgA 60], qjC 1 60]
noncomputable def c42_0 : Ct := (42, 2, (4, [qtN 0 0 60, qtA 1, qtN 2 0 60, qtN 3 0 60], [], [qvR 0], zh115, []),
  [((7, [qtA 4, qtN 5 0 60, qtN 6 0 60], [], [], zh116, []), 0, 0)])
noncomputable def c42_0_e : List Ct := [c43_0, c44_0]
noncomputable def c42_0_p0 : PE := (7, [0, 1, 2], (6, [qtN 0 0 60, qtA 1, qtN 2 0 60, qtN 3 0 60, qtA 4, qtN 5 0 60], [], [qvR 0, qvS 2, qvS 4], zh117, []), symsL 4 0, some ((.ofNat 121), [(5, (.negSucc 0))]), 0, 0)
noncomputable def c42_0_pts : List PE := [c42_0_p0]
set_option maxRecDepth 100000 in
theorem c42_0_k : enCtF c42_0 c42_0_e (pkP (c42_0_pts ++ []) [0]) (none) (noF, noM, 128, 0, 4) 3000 = true := by decide +kernel
set_option maxRecDepth 100000 in
theorem c42_0_k0 : ptCtF c42_0 c42_0_e (pkP (c42_0_pts ++ []) [0]) (noF, noM, 128, 0, 4) 3000 c42_0_p0 = true := by decide +kernel
set_option maxRecDepth 100000 in
theorem c42_0_v : ValidC PPk c42_0 := ct_ok fpk ⟨noF_ok, noM_ok⟩ (d := 1) (ext := []) (pts := c42_0_pts) (env := c42_0_e) rfl (List.forall_mem_cons.mpr ⟨⟨c43_0_v, Nat.le_of_ble_eq_true rfl⟩, List.forall_mem_cons.mpr ⟨⟨c44_0_v, Nat.le_of_ble_eq_true rfl⟩, fun _ h => (by cases h)⟩⟩) ext_nil (fun q h => (by cases h)) (enF c42_0_k) (List.forall_mem_cons.mpr ⟨⟨_, ptF c42_0_k0⟩, fun _ h => (by cases h)⟩)

noncomputable def zh118 : AH := [qoC 5 [qvS 0, qvR 1, qvS 5, qvS 6, qvS 7, qvR 2, qvR 3], qiC 2 [qgN 60 0 127], qiC 0 [qgA 60], qjC 1 60]
noncomputable def c41_0 : Ct := (41, 3, (5, [qtN 0 0 60, qtA 1, qtN 2 0 60, qtN 3 0 60, qtA 4], [((.ofNat 1), [(0, (.negSucc 0)), (2, (.ofNat 1))])], [qvR 0, qvS 4, qvK (.ofNat 8)], zh115, []),
  [((8, [qtA 5, qtN 6 0 60, qtN 7 0 60], [], [], zh118, []), 0, 0)])
noncomputable def c41_0_e : List Ct := [c42_0, c43_0, c44_0, c45_0]
noncomputable def c41_0_pts : List PE := []
set_option maxRecDepth 100000 in
theorem c41_0_k : enCtF c41_0 c41_0_e (pkP (c41_0_pts ++ []) []) (none) noH 3000 = true := by decide +kernel
set_option maxRecDepth 100000 in
theorem c41_0_v : ValidC PPk c41_0 := ct_ok fpk noH_ok (d := 2) (ext := []) (pts := c41_0_pts) (env := c41_0_e) rfl (List.forall_mem_cons.mpr ⟨⟨c42_0_v, Nat.le_of_ble_eq_true rfl⟩, List.forall_mem_cons.mpr ⟨⟨c43_0_v, Nat.le_of_ble_eq_true rfl⟩, List.forall_mem_cons.mpr ⟨⟨c44_0_v, Nat.le_of_ble_eq_true rfl⟩, List.forall_mem_cons.mpr ⟨⟨c45_0_v, Nat.le_of_ble_eq_true rfl⟩, fun _ h => (by cases h)⟩⟩⟩⟩) ext_nil (fun q h => (by cases h)) (enF c41_0_k) (fun _ h => (by cases h))

noncomputable def c41_1 : Ct := (41, 2, (6, [qtN 0 0 60, qtA 1, qtN 2 0 60, qtN 3 0 60], [], [qvR 0, qvK (.negSucc 0), qvK (.ofNat 8)], zh113, []),
  [((7, [qtA 6], [], [], zh114, []), 0, 0)])
noncomputable def c41_1_e : List Ct := [c43_0]
noncomputable def c41_1_pts : List PE := []
set_option maxRecDepth 100000 in
theorem c41_1_k : enCtF c41_1 c41_1_e (pkP (c41_1_pts ++ []) []) (none) noH 3000 = true := by decide +kernel
set_option maxRecDepth 100000 in
theorem c41_1_v : ValidC PPk c41_1 := ct_ok fpk noH_ok (d := 1) (ext := []) (pts := c41_1_pts) (env := c41_1_e) rfl (List.forall_mem_cons.mpr ⟨⟨c43_0_v, Nat.le_of_ble_eq_true rfl⟩, fun _ h => (by cases h)⟩) ext_nil (fun q h => (by cases h)) (enF c41_1_k) (fun _ h => (by cases h))
