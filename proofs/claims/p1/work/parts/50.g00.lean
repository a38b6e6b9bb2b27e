/-! ===== contracts, written by wip/vse3/emitlaw.py ===== -/
noncomputable def zc0 : AC := qoC 3 [qvR 1, qvR 2, qvK (.ofNat 0), qvR 3, qvR 4, qvR 5]
noncomputable def c2_0 : Ct := (2, 1, (0, [], [], [qvR 0], [qoC 3 [qvN, qvN, qvK (.ofNat 0), qvN, qvN, qvN]], []),
  [((0, [], [], [], [zc0, qiC 0 [qgN 6 0 0], qiC 0 [qgN 6 0 0], qiC 0 [qgN 8 0 0], qiC 0 [qgN 8 0 0], qiC 0 [qgN 8 0 0]], []), 5, 36)])
noncomputable def c2_0_e : List Ct := []
noncomputable def c2_0_pts : List PE := []
set_option maxRecDepth 100000 in
theorem c2_0_k : enCtF c2_0 c2_0_e (pkP (c2_0_pts ++ []) []) (none) noH 4000 = true := by decide +kernel
set_option maxRecDepth 100000 in
theorem c2_0_v : ValidC PPk c2_0 := ct_ok fpk noH_ok (d := 0) (ext := []) (pts := c2_0_pts) (env := c2_0_e) rfl (fun _ h => (by cases h)) ext_nil (fun q h => (by cases h)) (enF c2_0_k) (fun _ h => (by cases h))

noncomputable def zc1 : AC := qoC 4 [qvK (.ofNat 0), qvR 1, qvR 2, qvR 3, qvR 4]
noncomputable def zh2 : AH := [zc1, qiC 0 [qgN 6 0 0], qiC 0 [qgN 6 0 0], qiC 0 [qgN 6 0 0], qiC 0 [qgN 6 0 0]]
noncomputable def c3_0 : Ct := (3, 1, (0, [], [], [qvR 0], [qoC 4 [qvK (.ofNat 0), qvN, qvN, qvN, qvN]], []),
  [((0, [], [], [], zh2, []), 4, 24)])
noncomputable def c3_0_e : List Ct := []
noncomputable def c3_0_pts : List PE := []
set_option maxRecDepth 100000 in
theorem c3_0_k : enCtF c3_0 c3_0_e (pkP (c3_0_pts ++ []) []) (none) noH 4000 = true := by decide +kernel
set_option maxRecDepth 100000 in
theorem c3_0_v : ValidC PPk c3_0 := ct_ok fpk noH_ok (d := 0) (ext := []) (pts := c3_0_pts) (env := c3_0_e) rfl (fun _ h => (by cases h)) ext_nil (fun q h => (by cases h)) (enF c3_0_k) (fun _ h => (by cases h))

noncomputable def zc3 : AC := qoC 5 [qvK (.ofNat 0), qvR 1, qvK (.ofNat 1), qvK (.ofNat 0), qvK (.ofNat 0), qvR 2, qvR 3]
noncomputable def zh4 : AH := [zc3, qiC 2 [qgN 60 0 0], qiC 0 [qgN 60 0 0], qjC 1 1000000060]
noncomputable def c4_0 : Ct := (4, 1, (0, [], [], [qvR 0], [qoC 5 [qvK (.ofNat 0), qvN, qvK (.ofNat 0), qvK (.ofNat 0), qvK (.ofNat 0), qvN, qvN]], []),
  [((0, [], [], [], zh4, []), 3, 180)])
noncomputable def c4_0_e : List Ct := []
noncomputable def c4_0_pts : List PE := []
set_option maxRecDepth 100000 in
theorem c4_0_k : enCtF c4_0 c4_0_e (pkP (c4_0_pts ++ []) []) (none) noH 4000 = true := by decide +kernel
set_option maxRecDepth 100000 in
theorem c4_0_v : ValidC PPk c4_0 := ct_ok fpk noH_ok (d := 0) (ext := []) (pts := c4_0_pts) (env := c4_0_e) rfl (fun _ h => (by cases h)) ext_nil (fun q h => (by cases h)) (enF c4_0_k) (fun _ h => (by cases h))

noncomputable def zc5 : AC := qoC 6 [qvK (.ofNat 0), qvR 1, qvR 2, qvR 3, qvR 4, qvR 5]
noncomputable def zh6 : AH := [zc5, qiC 0 [qgN 8 0 0], qiC 0 [qgN 8 0 0], qiC 0 [qgN 8 0 0], qiC 0 [qgN 8 0 0], qiC 0 [qgN 8 0 0]]
noncomputable def c5_0 : Ct := (5, 1, (0, [], [], [qvR 0], [qoC 6 [qvK (.ofNat 0), qvN, qvN, qvN, qvN, qvN]], []),
  [((0, [], [], [], zh6, []), 5, 40)])
noncomputable def c5_0_e : List Ct := []
noncomputable def c5_0_pts : List PE := []
set_option maxRecDepth 100000 in
theorem c5_0_k : enCtF c5_0 c5_0_e (pkP (c5_0_pts ++ []) []) (none) noH 4000 = true := by decide +kernel
set_option maxRecDepth 100000 in
theorem c5_0_v : ValidC PPk c5_0 := ct_ok fpk noH_ok (d := 0) (ext := []) (pts := c5_0_pts) (env := c5_0_e) rfl (fun _ h => (by cases h)) ext_nil (fun q h => (by cases h)) (enF c5_0_k) (fun _ h => (by cases h))

noncomputable def zc7 : AC := qoC 2 [qvK (.ofNat 0), qvR 1, qvR 2, qvR 3, qvR 4]
noncomputable def zh8 : AH := [zc7, qiC 0 [qgN 60 0 0], qiC 0 [qgN 60 0 0], qiC 0 [qgN 60 0 0], qiC 0 [qgN 60 0 0]]
noncomputable def c6_0 : Ct := (6, 1, (0, [], [], [qvR 0], [qoC 2 [qvK (.ofNat 0), qvN, qvN, qvN, qvN]], []),
  [((0, [], [], [], zh8, []), 4, 240)])
noncomputable def c6_0_e : List Ct := []
noncomputable def c6_0_pts : List PE := []
set_option maxRecDepth 100000 in
theorem c6_0_k : enCtF c6_0 c6_0_e (pkP (c6_0_pts ++ []) []) (none) noH 4000 = true := by decide +kernel
set_option maxRecDepth 100000 in
theorem c6_0_v : ValidC PPk c6_0 := ct_ok fpk noH_ok (d := 0) (ext := []) (pts := c6_0_pts) (env := c6_0_e) rfl (fun _ h => (by cases h)) ext_nil (fun q h => (by cases h)) (enF c6_0_k) (fun _ h => (by cases h))

noncomputable def zc9 : AC := qiC 0 [qgN 0 0 0, .inl ((.negSucc 99), []), qgN 0 0 0, .inl ((.negSucc 99), []), qgN 0 0 0, .inl ((.negSucc 99), []), qgN 0 0 0, .inl ((.negSucc 99), []), qgN 0 0 0]
noncomputable def zc10 : AC := qiC 0 [qgN 0 0 0, .inl ((.ofNat 100), []), qgN 0 0 0, .inl ((.ofNat 100), []), qgN 0 0 0, .inl ((.ofNat 100), []), qgN 0 0 0, .inl ((.ofNat 100), []), qgN 0 0 0]
noncomputable def c1_0 : Ct := (1, 2, (0, [], [], [qvR 0], [qoC 1 [qvK (.ofNat 0), qvN, qvN, qvN, qvN, qvK (.ofNat 0), qvK (.ofNat 0), qvN, qvK (.ofNat 0), qvK (.ofNat 0), qvN, qvN, qvN, qvN, qvK (.ofNat 0), qvN, qvN, qvN]], []),
  [((0, [], [], [], [qoC 1 [qvK (.ofNat 3), qvR 1, qvR 2, qvR 8, qvR 9, qvK (.ofNat 3), qvK (.ofNat 5), qvR 10, qvK (.ofNat 100), qvK (.ofNat 0), qvR 15, qvR 16, qvR 17, qvR 21, qvK (.ofNat 0), qvR 27, qvR 28, qvR 29], qrC 4 [some 30, some 35], qoC 3 [qvR 3, qvR 4, qvK (.ofNat 0), qvR 5, qvR 6, qvR 7], qiC 0 [qgN 6 0 0], qiC 0 [qgN 6 0 0], qiC 0 [qgN 8 0 0], qiC 0 [qgN 8 0 0], qiC 0 [qgN 8 0 0], qiC 0 [qgN 8 0 0], qiC 0 [qgN 8 0 0], qoC 4 [qvK (.ofNat 0), qvR 11, qvR 12, qvR 13, qvR 14], qiC 0 [qgN 6 0 0], qiC 0 [qgN 6 0 0], qiC 0 [qgN 6 0 0], qiC 0 [qgN 6 0 0], zc9, zc10, qoC 5 [qvK (.ofNat 0), qvR 18, qvK (.ofNat 1), qvK (.ofNat 0), qvK (.ofNat 0), qvR 19, qvR 20], qiC 2 [qgN 60 0 0], qiC 0 [qgN 60 0 0], qjC 1 1000000060, qoC 6 [qvK (.ofNat 0), qvR 22, qvR 23, qvR 24, qvR 25, qvR 26], qiC 0 [qgN 8 0 0], qiC 0 [qgN 8 0 0], qiC 0 [qgN 8 0 0], qiC 0 [qgN 8 0 0], qiC 0 [qgN 8 0 0], qiC 0 [qgN 10 0 0], qiC 0 [qgN 4 0 0], qiC 0 [qgN 4 0 0], qoC 2 [qvK (.ofNat 0), qvR 31, qvR 32, qvR 33, qvR 34], qiC 0 [qgN 60 0 0], qiC 0 [qgN 60 0 0], qiC 0 [qgN 60 0 0], qiC 0 [qgN 60 0 0], qoC 2 [qvK (.ofNat 0), qvR 36, qvR 37, qvR 38, qvR 39], qiC 0 [qgN 60 0 0], qiC 0 [qgN 60 0 0], qiC 0 [qgN 60 0 0], qiC 0 [qgN 60 0 0]], []), 39, 838)])
noncomputable def c1_0_e : List Ct := [c2_0, c3_0, c4_0, c5_0, c6_0]
noncomputable def c1_0_pts : List PE := []
set_option maxRecDepth 100000 in
theorem c1_0_k : enCtF c1_0 c1_0_e (pkP (c1_0_pts ++ []) []) (none) noH 4000 = true := by decide +kernel
set_option maxRecDepth 100000 in
theorem c1_0_v : ValidC PPk c1_0 := ct_ok fpk noH_ok (d := 1) (ext := []) (pts := c1_0_pts) (env := c1_0_e) rfl (List.forall_mem_cons.mpr ⟨⟨c2_0_v, Nat.le_of_ble_eq_true rfl⟩, List.forall_mem_cons.mpr ⟨⟨c3_0_v, Nat.le_of_ble_eq_true rfl⟩, List.forall_mem_cons.mpr ⟨⟨c4_0_v, Nat.le_of_ble_eq_true rfl⟩, List.forall_mem_cons.mpr ⟨⟨c5_0_v, Nat.le_of_ble_eq_true rfl⟩, List.forall_mem_cons.mpr ⟨⟨c6_0_v, Nat.le_of_ble_eq_true rfl⟩, fun _ h => (by cases h)⟩⟩⟩⟩⟩) ext_nil (fun q h => (by cases h)) (enF c1_0_k) (fun _ h => (by cases h))

noncomputable def zc11 : AC := qoC 9 [qvR 1, qvR 2, qvR 3, qvK (.ofNat 0)]
noncomputable def c8_0 : Ct := (8, 1, (0, [], [], [qvR 0], [qoC 9 [qvN, qvN, qvN, qvK (.ofNat 0)]], []),
  [((0, [], [], [], [zc11, qiC 0 [qgN 32 0 0], qiC 0 [qgN 8 0 0], qiC 0 [qgN 8 0 0]], []), 3, 48)])
noncomputable def c8_0_e : List Ct := []
noncomputable def c8_0_pts : List PE := []
set_option maxRecDepth 100000 in
theorem c8_0_k : enCtF c8_0 c8_0_e (pkP (c8_0_pts ++ []) []) (none) noH 4000 = true := by decide +kernel
set_option maxRecDepth 100000 in
theorem c8_0_v : ValidC PPk c8_0 := ct_ok fpk noH_ok (d := 0) (ext := []) (pts := c8_0_pts) (env := c8_0_e) rfl (fun _ h => (by cases h)) ext_nil (fun q h => (by cases h)) (enF c8_0_k) (fun _ h => (by cases h))

noncomputable def zc12 : AC := qoC 8 [qvR 1, qvK (.ofNat 0), qvK (.ofNat 0), qvK (.ofNat 0), qvK (.ofNat 0)]
noncomputable def zh13 : AH := [zc12, qiC 0 [qgN 12 0 0]]
noncomputable def c9_0 : Ct := (9, 1, (0, [], [], [qvR 0], [qoC 8 [qvN, qvK (.ofNat 0), qvK (.ofNat 0), qvK (.ofNat 0), qvK (.ofNat 0)]], []),
  [((0, [], [], [], zh13, []), 1, 12)])
noncomputable def c9_0_e : List Ct := []
noncomputable def c9_0_pts : List PE := []
set_option maxRecDepth 100000 in
theorem c9_0_k : enCtF c9_0 c9_0_e (pkP (c9_0_pts ++ []) []) (none) noH 4000 = true := by decide +kernel
set_option maxRecDepth 100000 in
theorem c9_0_v : ValidC PPk c9_0 := ct_ok fpk noH_ok (d := 0) (ext := []) (pts := c9_0_pts) (env := c9_0_e) rfl (fun _ h => (by cases h)) ext_nil (fun q h => (by cases h)) (enF c9_0_k) (fun _ h => (by cases h))

noncomputable def zc14 : AC := qoC 8 [qvR 9, qvK (.ofNat 0), qvK (.ofNat 0), qvK (.ofNat 0), qvK (.ofNat 0)]
noncomputable def c7_0 : Ct := (7, 2, (0, [], [], [qvR 0], [qoC 7 [qvN, qvK (.ofNat 0), qvN, qvN, qvN, qvK (.ofNat 0), qvK (.ofNat 0), qvK (.ofNat 0), qvK (.ofNat 0), qvK (.ofNat 0), qvK (.ofNat 0), qvK (.ofNat 0), qvK (.ofNat 0), qvK (.ofNat 0), qvK (.ofNat 0), qvK (.ofNat 0), qvK (.ofNat 0)]], []),
  [((0, [], [], [], [qoC 7 [qvR 1, qvK (.ofNat 7), qvR 2, qvR 6, qvR 7, qvK (.ofNat 0), qvK (.ofNat 0), qvK (.ofNat 0), qvK (.ofNat 0), qvK (.ofNat 0), qvK (.ofNat 0), qvK (.ofNat 0), qvK (.ofNat 0), qvK (.ofNat 0), qvK (.ofNat 0), qvK (.ofNat 0), qvK (.negSucc 0)], qrC 5 [some 8, some 10, some 12, some 14], qoC 9 [qvR 3, qvR 4, qvR 5, qvK (.ofNat 0)], qiC 0 [qgN 32 0 0], qiC 0 [qgN 8 0 0], qiC 0 [qgN 8 0 0], qiC 0 [qgN 2 0 0], qiC 0 [qgN 6 0 0], zc14, qiC 0 [qgN 12 0 0], qoC 8 [qvR 11, qvK (.ofNat 0), qvK (.ofNat 0), qvK (.ofNat 0), qvK (.ofNat 0)], qiC 0 [qgN 12 0 0], qoC 8 [qvR 13, qvK (.ofNat 0), qvK (.ofNat 0), qvK (.ofNat 0), qvK (.ofNat 0)], qiC 0 [qgN 12 0 0], qoC 8 [qvR 15, qvK (.ofNat 0), qvK (.ofNat 0), qvK (.ofNat 0), qvK (.ofNat 0)], qiC 0 [qgN 12 0 0]], []), 15, 132)])
noncomputable def c7_0_e : List Ct := [c8_0, c9_0]
noncomputable def c7_0_pts : List PE := []
set_option maxRecDepth 100000 in
theorem c7_0_k : enCtF c7_0 c7_0_e (pkP (c7_0_pts ++ []) []) (none) noH 4000 = true := by decide +kernel
set_option maxRecDepth 100000 in
theorem c7_0_v : ValidC PPk c7_0 := ct_ok fpk noH_ok (d := 1) (ext := []) (pts := c7_0_pts) (env := c7_0_e) rfl (List.forall_mem_cons.mpr ⟨⟨c8_0_v, Nat.le_of_ble_eq_true rfl⟩, List.forall_mem_cons.mpr ⟨⟨c9_0_v, Nat.le_of_ble_eq_true rfl⟩, fun _ h => (by cases h)⟩⟩) ext_nil (fun q h => (by cases h)) (enF c7_0_k) (fun _ h => (by cases h))

noncomputable def zc15 : AC := qoC 1 [qvK (.ofNat 3), qvR 2, qvR 13, qvR 19, qvR 20, qvK (.ofNat 3), qvK (.ofNat 5), qvR 21, qvK (.ofNat 100), qvK (.ofNat 0), qvR 26, qvR 27, qvR 28, qvR 32, qvK (.ofNat 0), qvR 38, qvR 39, qvR 40]
noncomputable def zc16 : AC := qoC 2 [qvK (.ofNat 0), qvR 4, qvR 5, qvR 6, qvR 7]
noncomputable def zc17 : AC := qoC 2 [qvK (.ofNat 0), qvR 9, qvR 10, qvR 11, qvR 12]
noncomputable def zc18 : AC := qoC 3 [qvR 14, qvR 15, qvK (.ofNat 0), qvR 16, qvR 17, qvR 18]
noncomputable def zc19 : AC := qoC 4 [qvK (.ofNat 0), qvR 22, qvR 23, qvR 24, qvR 25]
noncomputable def zc20 : AC := qoC 5 [qvK (.ofNat 0), qvR 29, qvK (.ofNat 1), qvK (.ofNat 0), qvK (.ofNat 0), qvR 30, qvR 31]
noncomputable def zc21 : AC := qoC 6 [qvK (.ofNat 0), qvR 33, qvR 34, qvR 35, qvR 36, qvR 37]
noncomputable def zc22 : AC := qoC 10 [qvR 1, qvR 41, qvR 42]
noncomputable def c10_0 : Ct := (10, 1, (0, [], [], [qvR 0, qvR 1], [qoC 10 [qvN, qvN, qvN], zc15, qrC 4 [some 3, some 8], zc16, qiC 0 [qgN 60 0 0], qiC 0 [qgN 60 0 0], qiC 0 [qgN 60 0 0], qiC 0 [qgN 60 0 0], zc17, qiC 0 [qgN 60 0 0], qiC 0 [qgN 60 0 0], qiC 0 [qgN 60 0 0], qiC 0 [qgN 60 0 0], zc18, qiC 0 [qgN 6 0 0], qiC 0 [qgN 6 0 0], qiC 0 [qgN 8 0 0], qiC 0 [qgN 8 0 0], qiC 0 [qgN 8 0 0], qiC 0 [qgN 8 0 0], qiC 0 [qgN 8 0 0], zc19, qiC 0 [qgN 6 0 0], qiC 0 [qgN 6 0 0], qiC 0 [qgN 6 0 0], qiC 0 [qgN 6 0 0], zc9, zc10, zc20, qiC 2 [qgN 60 0 0], qiC 0 [qgN 60 0 0], qjC 1 1000000060, zc21, qiC 0 [qgN 8 0 0], qiC 0 [qgN 8 0 0], qiC 0 [qgN 8 0 0], qiC 0 [qgN 8 0 0], qiC 0 [qgN 8 0 0], qiC 0 [qgN 10 0 0], qiC 0 [qgN 4 0 0], qiC 0 [qgN 4 0 0]], []),
  [((0, [], [], [], [zc22, zc15, qrC 4 [some 3, some 8], zc16, qiC 0 [qgN 60 0 0], qiC 0 [qgN 60 0 0], qiC 0 [qgN 60 0 0], qiC 0 [qgN 60 0 0], zc17, qiC 0 [qgN 60 0 0], qiC 0 [qgN 60 0 0], qiC 0 [qgN 60 0 0], qiC 0 [qgN 60 0 0], zc18, qiC 0 [qgN 6 0 0], qiC 0 [qgN 6 0 0], qiC 0 [qgN 8 0 0], qiC 0 [qgN 8 0 0], qiC 0 [qgN 8 0 0], qiC 0 [qgN 8 0 0], qiC 0 [qgN 8 0 0], zc19, qiC 0 [qgN 6 0 0], qiC 0 [qgN 6 0 0], qiC 0 [qgN 6 0 0], qiC 0 [qgN 6 0 0], zc9, zc10, zc20, qiC 2 [qgN 60 0 0], qiC 0 [qgN 60 0 0], qjC 1 1000000060, zc21, qiC 0 [qgN 8 0 0], qiC 0 [qgN 8 0 0], qiC 0 [qgN 8 0 0], qiC 0 [qgN 8 0 0], qiC 0 [qgN 8 0 0], qiC 0 [qgN 10 0 0], qiC 0 [qgN 4 0 0], qiC 0 [qgN 4 0 0], qjC 1 1000000006, qjC 1 1000000004], []), 2, 10)])
noncomputable def c10_0_e : List Ct := []
noncomputable def c10_0_pts : List PE := []
set_option maxRecDepth 100000 in
theorem c10_0_k : enCtF c10_0 c10_0_e (pkP (c10_0_pts ++ []) []) (none) noH 4000 = true := by decide +kernel
set_option maxRecDepth 100000 in
theorem c10_0_v : ValidC PPk c10_0 := ct_ok fpk noH_ok (d := 0) (ext := []) (pts := c10_0_pts) (env := c10_0_e) rfl (fun _ h => (by cases h)) ext_nil (fun q h => (by cases h)) (enF c10_0_k) (fun _ h => (by cases h))

noncomputable def zc23 : AC := qoC 0 [qvR 1, qvR 41, qvR 57, qvN, qvR 60, qvR 61]
noncomputable def zc24 : AC := qoC 8 [qvR 50, qvK (.ofNat 0), qvK (.ofNat 0), qvK (.ofNat 0), qvK (.ofNat 0)]
noncomputable def zc25 : AC := qoC 8 [qvR 52, qvK (.ofNat 0), qvK (.ofNat 0), qvK (.ofNat 0), qvK (.ofNat 0)]
noncomputable def zc26 : AC := qoC 10 [qvR 1, qvR 58, qvR 59]
noncomputable def c0_0 : Ct := (0, 3, (0, [], [], [qvR 0], [qoC 0 [qvN, qvN, qvN, qvN, qvN, qvN]], []),
  [((0, [], [], [], [zc23, qoC 1 [qvK (.ofNat 3), qvR 2, qvR 3, qvR 9, qvR 10, qvK (.ofNat 3), qvK (.ofNat 5), qvR 11, qvK (.ofNat 100), qvK (.ofNat 0), qvR 16, qvR 17, qvR 18, qvR 22, qvK (.ofNat 0), qvR 28, qvR 29, qvR 30], qrC 4 [some 31, some 36], qoC 3 [qvR 4, qvR 5, qvK (.ofNat 0), qvR 6, qvR 7, qvR 8], qiC 0 [qgN 6 0 0], qiC 0 [qgN 6 0 0], qiC 0 [qgN 8 0 0], qiC 0 [qgN 8 0 0], qiC 0 [qgN 8 0 0], qiC 0 [qgN 8 0 0], qiC 0 [qgN 8 0 0], qoC 4 [qvK (.ofNat 0), qvR 12, qvR 13, qvR 14, qvR 15], qiC 0 [qgN 6 0 0], qiC 0 [qgN 6 0 0], qiC 0 [qgN 6 0 0], qiC 0 [qgN 6 0 0], zc9, zc10, qoC 5 [qvK (.ofNat 0), qvR 19, qvK (.ofNat 1), qvK (.ofNat 0), qvK (.ofNat 0), qvR 20, qvR 21], qiC 2 [qgN 60 0 0], qiC 0 [qgN 60 0 0], qjC 1 1000000060, qoC 6 [qvK (.ofNat 0), qvR 23, qvR 24, qvR 25, qvR 26, qvR 27], qiC 0 [qgN 8 0 0], qiC 0 [qgN 8 0 0], qiC 0 [qgN 8 0 0], qiC 0 [qgN 8 0 0], qiC 0 [qgN 8 0 0], qiC 0 [qgN 10 0 0], qiC 0 [qgN 4 0 0], qiC 0 [qgN 4 0 0], qoC 2 [qvK (.ofNat 0), qvR 32, qvR 33, qvR 34, qvR 35], qiC 0 [qgN 60 0 0], qiC 0 [qgN 60 0 0], qiC 0 [qgN 60 0 0], qiC 0 [qgN 60 0 0], qoC 2 [qvK (.ofNat 0), qvR 37, qvR 38, qvR 39, qvR 40], qiC 0 [qgN 60 0 0], qiC 0 [qgN 60 0 0], qiC 0 [qgN 60 0 0], qiC 0 [qgN 60 0 0], qoC 7 [qvR 42, qvK (.ofNat 7), qvR 43, qvR 47, qvR 48, qvK (.ofNat 0), qvK (.ofNat 0), qvK (.ofNat 0), qvK (.ofNat 0), qvK (.ofNat 0), qvK (.ofNat 0), qvK (.ofNat 0), qvK (.ofNat 0), qvK (.ofNat 0), qvK (.ofNat 0), qvK (.ofNat 0), qvK (.negSucc 0)], qrC 5 [some 49, some 51, some 53, some 55], qoC 9 [qvR 44, qvR 45, qvR 46, qvK (.ofNat 0)], qiC 0 [qgN 32 0 0], qiC 0 [qgN 8 0 0], qiC 0 [qgN 8 0 0], qiC 0 [qgN 2 0 0], qiC 0 [qgN 6 0 0], zc24, qiC 0 [qgN 12 0 0], zc25, qiC 0 [qgN 12 0 0], qoC 8 [qvR 54, qvK (.ofNat 0), qvK (.ofNat 0), qvK (.ofNat 0), qvK (.ofNat 0)], qiC 0 [qgN 12 0 0], qoC 8 [qvR 56, qvK (.ofNat 0), qvK (.ofNat 0), qvK (.ofNat 0), qvK (.ofNat 0)], qiC 0 [qgN 12 0 0], zc26, qjC 1 1000000006, qjC 1 1000000004, qrC 6 [none, none], qrC 7 [none, none]], []), 61, 1022)])
noncomputable def c0_0_e : List Ct := [c10_0, c1_0, c7_0]
noncomputable def c0_0_pts : List PE := []
set_option maxRecDepth 100000 in
theorem c0_0_k : enCtF c0_0 c0_0_e (pkP (c0_0_pts ++ []) []) (none) noH 4000 = true := by decide +kernel
set_option maxRecDepth 100000 in
theorem c0_0_v : ValidC PPk c0_0 := ct_ok fpk noH_ok (d := 2) (ext := []) (pts := c0_0_pts) (env := c0_0_e) rfl (List.forall_mem_cons.mpr ⟨⟨c10_0_v, Nat.le_of_ble_eq_true rfl⟩, List.forall_mem_cons.mpr ⟨⟨c1_0_v, Nat.le_of_ble_eq_true rfl⟩, List.forall_mem_cons.mpr ⟨⟨c7_0_v, Nat.le_of_ble_eq_true rfl⟩, fun _ h => (by cases h)⟩⟩⟩) ext_nil (fun q h => (by cases h)) (enF c0_0_k) (fun _ h => (by cases h))

noncomputable def zc27 : AC := qoC 12 [qvR 1, qvR 2, qvR 3, qvK (.ofNat 0), qvR 4, qvR 5, qvK (.ofNat 0), qvR 6, qvR 7, qvK (.ofNat 0), qvR 8, qvK (.ofNat 0), qvR 9, qvR 10, qvR 11, qvR 12, qvK (.ofNat 0), qvK (.ofNat 0), qvK (.ofNat 0), qvR 13, qvK (.ofNat 0), qvK (.ofNat 0), qvK (.ofNat 0), qvR 14]
noncomputable def zc28 : AC := qiC 0 [qgN 0 0 0, .inl ((.ofNat 3), []), qgN 7 0 0, .inl ((.ofNat 3), []), qgN 0 0 0, .inl ((.ofNat 5), []), qgN 7 0 0, .inl ((.ofNat 100), []), qgN 2 0 0, .inl ((.negSucc 0), []), qgN 21 0 0, .inl ((.ofNat 1), []), qgN 39 0 0, .inl ((.ofNat 1), []), qgN 39 0 0, .inl ((.ofNat 1), []), qgN 39 0 0, .inl ((.ofNat 1), []), qgN 621 0 0, .inl ((.negSucc 99), []), qgN 0 0 0, .inl ((.ofNat 100), []), qgN 0 0 0, .inl ((.negSucc 99), []), qgN 0 0 0, .inl ((.ofNat 100), []), qgN 0 0 0, .inl ((.negSucc 99), []), qgN 0 0 0, .inl ((.ofNat 100), []), qgN 0 0 0, .inl ((.negSucc 99), []), qgN 0 0 0, .inl ((.ofNat 100), []), qgN 118 0 0]
noncomputable def zh29 : AH := [zc27, zc28, qiC 0 [qgN 1820 0 0], qiC 3 [qgN 2 0 0], qiC 0 [qgN 70 0 0], qiC 0 [qgN 70 0 0], qiC 0 [qgN 70 0 0], qjC 1 1000000070, qjC 1 1000000008, qiC 0 [qgN 910 0 0], qiC 0 [qgN 910 0 0], qiC 0 [qgN 20 0 0], qiC 0 [qgN 20 0 0], qiC 0 [qgN 910 0 0], qjC 1 1000000004]
noncomputable def c143_0 : Ct := (143, 1, (0, [], [], [qvR 0], [qoC 12 [qvN, qvN, qvN, qvK (.ofNat 0), qvN, qvN, qvK (.ofNat 0), qvN, qvN, qvK (.ofNat 0), qvN, qvK (.ofNat 0), qvN, qvN, qvN, qvN, qvK (.ofNat 0), qvK (.ofNat 0), qvK (.ofNat 0), qvN, qvK (.ofNat 0), qvK (.ofNat 0), qvK (.ofNat 0), qvN]], []),
  [((0, [], [], [], zh29, []), 14, 5794)])
noncomputable def c143_0_e : List Ct := []
noncomputable def c143_0_pts : List PE := []
set_option maxRecDepth 100000 in
theorem c143_0_k : enCtF c143_0 c143_0_e (pkP (c143_0_pts ++ []) []) (none) noH 4000 = true := by decide +kernel
set_option maxRecDepth 100000 in
theorem c143_0_v : ValidC PPk c143_0 := ct_ok fpk noH_ok (d := 0) (ext := []) (pts := c143_0_pts) (env := c143_0_e) rfl (fun _ h => (by cases h)) ext_nil (fun q h => (by cases h)) (enF c143_0_k) (fun _ h => (by cases h))

noncomputable def c12_0 : Ct := (12, 1, (1, [qtA 0], [], [qvS 0, qvK (.ofNat 1), qvK (.ofNat 4)], [], []),
  [((1, [(0, (.negSucc 2147483647), (.ofNat 0))], [], [qvK (.ofNat 0)], [], []), 0, 0),
   ((1, [qtN 0 5 2147483647], [], [qvK (.ofNat 0)], [], []), 0, 0),
   ((1, [qtN 0 1 4], [], [qvK (.ofNat 1)], [], []), 0, 0)])
noncomputable def c12_0_e : List Ct := []
noncomputable def c12_0_pts : List PE := []
set_option maxRecDepth 100000 in
theorem c12_0_k : enCtF c12_0 c12_0_e (pkP (c12_0_pts ++ []) []) (none) noH 3000 = true := by decide +kernel
set_option maxRecDepth 100000 in
theorem c12_0_v : ValidC PPk c12_0 := ct_ok fpk noH_ok (d := 0) (ext := []) (pts := c12_0_pts) (env := c12_0_e) rfl (fun _ h => (by cases h)) ext_nil (fun q h => (by cases h)) (enF c12_0_k) (fun _ h => (by cases h))

noncomputable def c14_0 : Ct := (14, 1, (0, [], [], [qvR 0], zh13, []),
  [((0, [], [], [], zh13, []), 0, 0)])
noncomputable def c14_0_e : List Ct := []
noncomputable def c14_0_p0 : PE := (2, [0, 1], (1, [qtN 0 0 12], [], [qvR 0, qvS 0], zh13, []), symsL 0 0, some ((.ofNat 25), [(0, (.negSucc 0))]), 0, 0)
noncomputable def c14_0_pts : List PE := [c14_0_p0]
set_option maxRecDepth 100000 in
theorem c14_0_k : enCtF c14_0 c14_0_e (pkP (c14_0_pts ++ []) [0]) (none) (noF, noM, 4, 0, 0) 3000 = true := by decide +kernel
set_option maxRecDepth 100000 in
theorem c14_0_k0 : ptCtF c14_0 c14_0_e (pkP (c14_0_pts ++ []) [0]) (noF, noM, 4, 0, 0) 3000 c14_0_p0 = true := by decide +kernel
set_option maxRecDepth 100000 in
theorem c14_0_v : ValidC PPk c14_0 := ct_ok fpk ⟨noF_ok, noM_ok⟩ (d := 0) (ext := []) (pts := c14_0_pts) (env := c14_0_e) rfl (fun _ h => (by cases h)) ext_nil (fun q h => (by cases h)) (enF c14_0_k) (List.forall_mem_cons.mpr ⟨⟨_, ptF c14_0_k0⟩, fun _ h => (by cases h)⟩)

noncomputable def zc30 : AC := qoC 7 [qvR 1, qvK (.ofNat 7), qvR 10, qvR 14, qvR 15, qvK (.ofNat 0), qvK (.ofNat 0), qvK (.ofNat 0), qvS 1, qvK (.ofNat 0), qvK (.ofNat 0), qvS 2, qvK (.ofNat 0), qvK (.ofNat 0), qvK (.ofNat 0), qvK (.ofNat 0), qvK (.negSucc 0)]
noncomputable def zc31 : AC := qrC 5 [some 2, some 4, some 6, some 8]
noncomputable def zc32 : AC := qoC 8 [qvR 3, qvK (.ofNat 0), qvK (.ofNat 0), qvK (.ofNat 0), qvK (.ofNat 0)]
noncomputable def zc33 : AC := qoC 8 [qvR 5, qvK (.ofNat 0), qvK (.ofNat 0), qvK (.ofNat 0), qvK (.ofNat 0)]
noncomputable def zc34 : AC := qoC 8 [qvR 7, qvK (.ofNat 0), qvK (.ofNat 0), qvK (.ofNat 0), qvK (.ofNat 0)]
noncomputable def zc35 : AC := qoC 9 [qvR 11, qvR 12, qvR 13, qvK (.ofNat 0)]
noncomputable def zh36 : AH := [zc30, zc31, zc32, qiC 0 [qgN 12 0 0], zc33, qiC 0 [qgN 12 0 0], zc34, qiC 0 [qgN 12 0 0], zc14, qiC 0 [qgN 12 0 0], zc35, qkC 100 3, qkC 100 4, qkC 100 5, qkC 100 6, qkC 100 7]
noncomputable def c13_0 : Ct := (13, 2, (8, [qtA 0, qtA 1, qtN 2 0 1001], [], [qvR 0, qvS 0], zh36, []),
  [((9, [qtA 8], [], [], [qoC 7 [qvR 1, qvS 8, qvR 10, qvR 14, qvR 15, qvK (.ofNat 0), qvK (.ofNat 0), qvK (.ofNat 0), qvS 1, qvK (.ofNat 0), qvK (.ofNat 0), qvS 2, qvK (.ofNat 0), qvK (.ofNat 0), qvK (.ofNat 0), qvK (.ofNat 0), qvK (.negSucc 0)], zc31, zc32, qiC 0 [qgN 12 0 0], zc33, qiC 0 [qgN 12 0 0], zc34, qiC 0 [qgN 12 0 0], zc14, qiC 0 [qgN 12 0 0], zc35, qkC 100 3, qkC 100 4, qkC 100 5, qkC 100 6, qkC 100 7], []), 0, 0)])
noncomputable def c13_0_e : List Ct := [c14_0]
noncomputable def c13_0_p0 : PE := (2, [0, 1, 2], (9, [qtA 0, qtA 1, qtN 2 0 1001, qtN 8 0 4], [], [qvR 0, qvS 0, qvS 8], zh36, []), symsL 8 0, some ((.ofNat 9), [(8, (.negSucc 0))]), 0, 0)
noncomputable def c13_0_pts : List PE := [c13_0_p0]
set_option maxRecDepth 100000 in
theorem c13_0_k : enCtF c13_0 c13_0_e (pkP (c13_0_pts ++ []) [0]) (none) (noF, noM, 4, 0, 8) 3000 = true := by decide +kernel
set_option maxRecDepth 100000 in
theorem c13_0_k0 : ptCtF c13_0 c13_0_e (pkP (c13_0_pts ++ []) [0]) (noF, noM, 4, 0, 8) 3000 c13_0_p0 = true := by decide +kernel
set_option maxRecDepth 100000 in
theorem c13_0_v : ValidC PPk c13_0 := ct_ok fpk ⟨noF_ok, noM_ok⟩ (d := 1) (ext := []) (pts := c13_0_pts) (env := c13_0_e) rfl (List.forall_mem_cons.mpr ⟨⟨c14_0_v, Nat.le_of_ble_eq_true rfl⟩, fun _ h => (by cases h)⟩) ext_nil (fun q h => (by cases h)) (enF c13_0_k) (List.forall_mem_cons.mpr ⟨⟨_, ptF c13_0_k0⟩, fun _ h => (by cases h)⟩)

noncomputable def zc37 : AC := qoC 7 [qvR 42, qvK (.ofNat 7), qvR 51, qvR 55, qvR 56, qvK (.ofNat 0), qvK (.ofNat 0), qvK (.ofNat 0), qvK (.ofNat 0), qvK (.ofNat 0), qvK (.ofNat 0), qvK (.ofNat 0), qvK (.ofNat 0), qvK (.ofNat 0), qvK (.ofNat 0), qvK (.ofNat 0), qvK (.negSucc 0)]
noncomputable def zc38 : AC := qrC 5 [some 43, some 45, some 47, some 49]
noncomputable def zc39 : AC := qoC 8 [qvR 44, qvK (.ofNat 0), qvK (.ofNat 0), qvK (.ofNat 0), qvK (.ofNat 0)]
noncomputable def zc40 : AC := qoC 8 [qvR 46, qvK (.ofNat 0), qvK (.ofNat 0), qvK (.ofNat 0), qvK (.ofNat 0)]
noncomputable def zc41 : AC := qoC 8 [qvR 48, qvK (.ofNat 0), qvK (.ofNat 0), qvK (.ofNat 0), qvK (.ofNat 0)]
noncomputable def zc42 : AC := qoC 9 [qvR 52, qvR 53, qvR 54, qvK (.ofNat 0)]
noncomputable def zh43 : AH := [zc23, zc15, qrC 4 [some 3, some 8], zc16, qiC 0 [qgN 60 0 0], qiC 0 [qgN 60 0 0], qiC 0 [qgN 60 0 0], qiC 0 [qgN 60 0 0], zc17, qiC 0 [qgN 60 0 0], qiC 0 [qgN 60 0 0], qiC 0 [qgN 60 0 0], qiC 0 [qgN 60 0 0], zc18, qiC 0 [qgN 6 0 0], qiC 0 [qgN 6 0 0], qiC 0 [qgN 8 0 0], qiC 0 [qgN 8 0 0], qiC 0 [qgN 8 0 0], qiC 0 [qgN 8 0 0], qiC 0 [qgN 8 0 0], zc19, qiC 0 [qgN 6 0 0], qiC 0 [qgN 6 0 0], qiC 0 [qgN 6 0 0], qiC 0 [qgN 6 0 0], zc9, zc10, zc20, qiC 2 [qgN 60 0 0], qiC 0 [qgN 60 0 0], qjC 1 1000000060, zc21, qiC 0 [qgN 8 0 0], qiC 0 [qgN 8 0 0], qiC 0 [qgN 8 0 0], qiC 0 [qgN 8 0 0], qiC 0 [qgN 8 0 0], qiC 0 [qgN 10 0 0], qiC 0 [qgN 4 0 0], qiC 0 [qgN 4 0 0], zc37, zc38, zc39, qiC 0 [qgN 12 0 0], zc40, qiC 0 [qgN 12 0 0], zc41, qiC 0 [qgN 12 0 0], zc24, qiC 0 [qgN 12 0 0], zc42, qiC 0 [qgN 32 0 0], qiC 0 [qgN 8 0 0], qiC 0 [qgN 8 0 0], qiC 0 [qgN 2 0 0], qiC 0 [qgN 6 0 0], zc26, qjC 1 1000000006, qjC 1 1000000004, qrC 6 [none, none], qrC 7 [none, none]]
noncomputable def c11_0 : Ct := (11, 3, (1, [qtA 0], [], [qvR 0, qvS 0], zh43, []),
  [((1, [(0, (.negSucc 2147483647), (.ofNat 0))], [], [qvK (.negSucc 1)], zh43, []), 0, 0),
   ((1, [qtN 0 5 2147483647], [], [qvK (.negSucc 1)], zh43, []), 0, 0),
   ((2, [qtN 0 1 4, qtA 1], [], [qvK (.ofNat 1)], [zc23, qoC 1 [qvS 0, qvR 2, qvR 13, qvR 19, qvR 20, qvK (.ofNat 3), qvK (.ofNat 5), qvR 21, qvK (.ofNat 100), qvK (.ofNat 0), qvR 26, qvR 27, qvR 28, qvR 32, qvK (.ofNat 0), qvR 38, qvR 39, qvR 40], qrC 4 [some 3, some 8], zc16, qiC 0 [qgN 60 0 0], qiC 0 [qgN 60 0 0], qiC 0 [qgN 60 0 0], qiC 0 [qgN 60 0 0], zc17, qiC 0 [qgN 60 0 0], qiC 0 [qgN 60 0 0], qiC 0 [qgN 60 0 0], qiC 0 [qgN 60 0 0], zc18, qiC 0 [qgN 6 0 0], qiC 0 [qgN 6 0 0], qiC 0 [qgN 8 0 0], qiC 0 [qgN 8 0 0], qiC 0 [qgN 8 0 0], qiC 0 [qgN 8 0 0], qiC 0 [qgN 8 0 0], zc19, qiC 0 [qgN 6 0 0], qiC 0 [qgN 6 0 0], qiC 0 [qgN 6 0 0], qiC 0 [qgN 6 0 0], zc9, zc10, zc20, qiC 2 [qgN 60 0 0], qiC 0 [qgN 60 0 0], qjC 1 1000000060, zc21, qiC 0 [qgN 8 0 0], qiC 0 [qgN 8 0 0], qiC 0 [qgN 8 0 0], qiC 0 [qgN 8 0 0], qiC 0 [qgN 8 0 0], qiC 0 [qgN 10 0 0], qiC 0 [qgN 4 0 0], qiC 0 [qgN 4 0 0], qoC 7 [qvR 42, qvS 1, qvR 51, qvR 55, qvR 56, qvK (.ofNat 0), qvK (.ofNat 0), qvK (.ofNat 0), qvK (.ofNat 0), qvK (.ofNat 0), qvK (.ofNat 0), qvK (.ofNat 0), qvK (.ofNat 0), qvK (.ofNat 0), qvK (.ofNat 0), qvK (.ofNat 0), qvK (.negSucc 0)], zc38, zc39, qiC 0 [qgN 12 0 0], zc40, qiC 0 [qgN 12 0 0], zc41, qiC 0 [qgN 12 0 0], zc24, qiC 0 [qgN 12 0 0], zc42, qiC 0 [qgN 32 0 0], qiC 0 [qgN 8 0 0], qiC 0 [qgN 8 0 0], qiC 0 [qgN 2 0 0], qiC 0 [qgN 6 0 0], zc26, qjC 1 1000000006, qjC 1 1000000004, qrC 6 [none, none], qrC 7 [none, none]], []), 0, 0)])
noncomputable def c11_0_e : List Ct := [c12_0, c13_0]
noncomputable def c11_0_pts : List PE := []
set_option maxRecDepth 100000 in
theorem c11_0_k : enCtF c11_0 c11_0_e (pkP (c11_0_pts ++ []) []) (none) noH 3000 = true := by decide +kernel
set_option maxRecDepth 100000 in
theorem c11_0_v : ValidC PPk c11_0 := ct_ok fpk noH_ok (d := 2) (ext := []) (pts := c11_0_pts) (env := c11_0_e) rfl (List.forall_mem_cons.mpr ⟨⟨c12_0_v, Nat.le_of_ble_eq_true rfl⟩, List.forall_mem_cons.mpr ⟨⟨c13_0_v, Nat.le_of_ble_eq_true rfl⟩, fun _ h => (by cases h)⟩⟩) ext_nil (fun q h => (by cases h)) (enF c11_0_k) (fun _ h => (by cases h))

noncomputable def c145_0 : Ct := (145, 1, (1, [qtA 0], [], [qvS 0, qvK (.ofNat 1), qvK (.ofNat 4)], [], []),
  [((1, [(0, (.negSucc 2147483647), (.ofNat 0))], [], [qvK (.ofNat 0)], [], []), 0, 0),
   ((1, [qtN 0 5 2147483647], [], [qvK (.ofNat 0)], [], []), 0, 0),
   ((1, [qtN 0 1 4], [], [qvK (.ofNat 1)], [], []), 0, 0)])
noncomputable def c145_0_e : List Ct := []
noncomputable def c145_0_pts : List PE := []
set_option maxRecDepth 100000 in
theorem c145_0_k : enCtF c145_0 c145_0_e (pkP (c145_0_pts ++ []) []) (none) noH 3000 = true := by decide +kernel
set_option maxRecDepth 100000 in
theorem c145_0_v : ValidC PPk c145_0 := ct_ok fpk noH_ok (d := 0) (ext := []) (pts := c145_0_pts) (env := c145_0_e) rfl (fun _ h => (by cases h)) ext_nil (fun q h => (by cases h)) (enF c145_0_k) (fun _ h => (by cases h))

noncomputable def zh44 : AH := [zc27, qiC 0 [qgN 1 3 3, qgN 7 0 0, qgN 1 3 3, qgN 1 5 5, qgN 7 0 0, qgN 1 100 100, qgN 2 0 0, .inr (1, (.negSucc 0), (.negSucc 0)), qgN 9 0 0, qgA 160, qgN 594 0 0, .inr (1, (.negSucc 99), (.negSucc 99)), qgN 1 100 100, .inr (1, (.negSucc 99), (.negSucc 99)), qgN 1 100 100, .inr (1, (.negSucc 99), (.negSucc 99)), qgN 1 100 100, .inr (1, (.negSucc 99), (.negSucc 99)), qgN 1 100 100, qgN 118 0 0], qiC 0 [qgN 1820 0 0], qiC 3 [qgN 2 0 0], qiC 0 [qgN 70 0 0], qiC 0 [qgN 70 0 0], qiC 0 [qgN 70 0 0], qjC 1 1000000070, qjC 1 1000000008, qiC 0 [qgN 910 0 0], qiC 0 [qgN 910 0 0], qiC 0 [qgN 20 0 0], qiC 0 [qgN 20 0 0], qiC 0 [qgN 910 0 0], qjC 1 1000000004]
noncomputable def zh45 : AH := [zc27, qiC 0 [qgN 0 3 3, qgS 0, qgN 0 3 3, qgN 7 0 0, qgN 1 3 3, qgN 1 5 5, qgN 7 0 0, qgN 1 100 100, qgN 2 0 0, .inr (1, (.negSucc 0), (.negSucc 0)), qgN 9 0 0, qgA 160, qgN 594 0 0, .inr (1, (.negSucc 99), (.negSucc 99)), qgN 1 100 100, .inr (1, (.negSucc 99), (.negSucc 99)), qgN 1 100 100, .inr (1, (.negSucc 99), (.negSucc 99)), qgN 1 100 100, .inr (1, (.negSucc 99), (.negSucc 99)), qgN 1 100 100, qgN 118 0 0], qiC 0 [qgN 1820 0 0], qiC 3 [qgN 2 0 0], qiC 0 [qgN 70 0 0], qiC 0 [qgN 70 0 0], qiC 0 [qgN 70 0 0], qjC 1 1000000070, qjC 1 1000000008, qiC 0 [qgN 910 0 0], qiC 0 [qgN 910 0 0], qiC 0 [qgN 20 0 0], qiC 0 [qgN 20 0 0], qiC 0 [qgN 910 0 0], qjC 1 1000000004]
noncomputable def c144_0 : Ct := (144, 2, (1, [qtA 0], [], [qvR 0, qvS 0], zh44, []),
  [((1, [(0, (.negSucc 2147483647), (.ofNat 0))], [], [qvK (.negSucc 1)], zh44, []), 0, 0),
   ((1, [qtN 0 5 2147483647], [], [qvK (.negSucc 1)], zh44, []), 0, 0),
   ((1, [qtN 0 1 4], [], [qvK (.ofNat 1)], zh45, []), 0, 0)])
noncomputable def c144_0_e : List Ct := [c145_0]
noncomputable def c144_0_p0 : PE := (34, [0, 1, 2], (1, [qtN 0 1 4], [], [qvR 0, qvS 0, qvK (.ofNat 0)], zh45, []), symsL 1 0, some ((.ofNat 2419), []), 0, 0)
noncomputable def c144_0_p1 : PE := (34, [0, 1, 2, 3], (2, [qtN 0 1 4, qtN 1 1 4], [], [qvR 0, qvS 0, qvS 1, qvK (.ofNat 40)], zh45, []), symsL 1 0, some ((.ofNat 2419), [(1, (.negSucc 163))]), 0, 0)
noncomputable def c144_0_p2 : PE := (41, [0, 1, 2, 3], (3, [qtN 0 1 4, qtN 1 0 3, qtN 2 0 40], [], [qvR 0, qvS 0, qvS 1, qvS 2], zh45, []), symsL 1 0, some ((.ofNat 2377), [(1, (.negSucc 163)), (2, (.negSucc 0))]), 0, 0)
noncomputable def c144_0_pts : List PE := [c144_0_p0, c144_0_p1, c144_0_p2]
set_option maxRecDepth 100000 in
theorem c144_0_k : enCtF c144_0 c144_0_e (pkP (c144_0_pts ++ []) [0]) (none) (noF, noM, 2216203124736, 0, 1) 3000 = true := by decide +kernel
set_option maxRecDepth 100000 in
theorem c144_0_k0 : ptCtF c144_0 c144_0_e (pkP (c144_0_pts ++ []) [2]) (noF, noM, 2216203124736, 0, 1) 3000 c144_0_p0 = true := by decide +kernel
set_option maxRecDepth 100000 in
theorem c144_0_k1 : ptCtF c144_0 c144_0_e (pkP (c144_0_pts ++ []) [2]) (noF, noM, 2216203124736, 0, 1) 3000 c144_0_p1 = true := by decide +kernel
set_option maxRecDepth 100000 in
theorem c144_0_k2 : ptCtF c144_0 c144_0_e (pkP (c144_0_pts ++ []) [1, 2]) (noF, noM, 2216203124736, 0, 1) 3000 c144_0_p2 = true := by decide +kernel
set_option maxRecDepth 100000 in
theorem c144_0_v : ValidC PPk c144_0 := ct_ok fpk ⟨noF_ok, noM_ok⟩ (d := 1) (ext := []) (pts := c144_0_pts) (env := c144_0_e) rfl (List.forall_mem_cons.mpr ⟨⟨c145_0_v, Nat.le_of_ble_eq_true rfl⟩, fun _ h => (by cases h)⟩) ext_nil (fun q h => (by cases h)) (enF c144_0_k) (List.forall_mem_cons.mpr ⟨⟨_, ptF c144_0_k0⟩, List.forall_mem_cons.mpr ⟨⟨_, ptF c144_0_k1⟩, List.forall_mem_cons.mpr ⟨⟨_, ptF c144_0_k2⟩, fun _ h => (by cases h)⟩⟩⟩)

noncomputable def c12_1 : Ct := (12, 1, (1, [qtA 0], [], [qvS 0, qvK (.ofNat 0), qvK (.ofNat 10)], [], []),
  [((1, [(0, (.negSucc 2147483647), (.negSucc 0))], [], [qvK (.ofNat 0)], [], []), 0, 0),
   ((1, [qtN 0 11 2147483647], [], [qvK (.ofNat 0)], [], []), 0, 0),
   ((1, [qtN 0 0 10], [], [qvK (.ofNat 1)], [], []), 0, 0)])
noncomputable def c12_1_e : List Ct := []
noncomputable def c12_1_pts : List PE := []
set_option maxRecDepth 100000 in
theorem c12_1_k : enCtF c12_1 c12_1_e (pkP (c12_1_pts ++ []) []) (none) noH 3000 = true := by decide +kernel
set_option maxRecDepth 100000 in
theorem c12_1_v : ValidC PPk c12_1 := ct_ok fpk noH_ok (d := 0) (ext := []) (pts := c12_1_pts) (env := c12_1_e) rfl (fun _ h => (by cases h)) ext_nil (fun q h => (by cases h)) (enF c12_1_k) (fun _ h => (by cases h))

noncomputable def c12_2 : Ct := (12, 1, (1, [qtA 0], [], [qvS 0, qvK (.ofNat 0), qvK (.ofNat 11)], [], []),
  [((1, [(0, (.negSucc 2147483647), (.negSucc 0))], [], [qvK (.ofNat 0)], [], []), 0, 0),
   ((1, [qtN 0 12 2147483647], [], [qvK (.ofNat 0)], [], []), 0, 0),
   ((1, [qtN 0 0 11], [], [qvK (.ofNat 1)], [], []), 0, 0)])
noncomputable def c12_2_e : List Ct := []
noncomputable def c12_2_pts : List PE := []
set_option maxRecDepth 100000 in
theorem c12_2_k : enCtF c12_2 c12_2_e (pkP (c12_2_pts ++ []) []) (none) noH 3000 = true := by decide +kernel
set_option maxRecDepth 100000 in
theorem c12_2_v : ValidC PPk c12_2 := ct_ok fpk noH_ok (d := 0) (ext := []) (pts := c12_2_pts) (env := c12_2_e) rfl (fun _ h => (by cases h)) ext_nil (fun q h => (by cases h)) (enF c12_2_k) (fun _ h => (by cases h))

noncomputable def c17_0 : Ct := (17, 2, (1, [qtA 0], [], [qvS 0], [], []),
  [((1, [(0, (.negSucc 2147483647), (.negSucc 0))], [], [qvK (.ofNat 0)], [], []), 0, 0),
   ((1, [qtN 0 12 2147483647], [], [qvK (.ofNat 0)], [], []), 0, 0),
   ((1, [qtN 0 0 11], [], [qvK (.ofNat 1)], [], []), 0, 0)])
noncomputable def c17_0_e : List Ct := [c12_2]
noncomputable def c17_0_pts : List PE := []
set_option maxRecDepth 100000 in
theorem c17_0_k : enCtF c17_0 c17_0_e (pkP (c17_0_pts ++ []) []) (none) noH 3000 = true := by decide +kernel
set_option maxRecDepth 100000 in
theorem c17_0_v : ValidC PPk c17_0 := ct_ok fpk noH_ok (d := 1) (ext := []) (pts := c17_0_pts) (env := c17_0_e) rfl (List.forall_mem_cons.mpr ⟨⟨c12_2_v, Nat.le_of_ble_eq_true rfl⟩, fun _ h => (by cases h)⟩) ext_nil (fun q h => (by cases h)) (enF c17_0_k) (fun _ h => (by cases h))

noncomputable def c12_3 : Ct := (12, 1, (1, [qtA 0], [], [qvS 0, qvK (.ofNat 1), qvK (.ofNat 20)], [], []),
  [((1, [(0, (.negSucc 2147483647), (.ofNat 0))], [], [qvK (.ofNat 0)], [], []), 0, 0),
   ((1, [qtN 0 21 2147483647], [], [qvK (.ofNat 0)], [], []), 0, 0),
   ((1, [qtN 0 1 20], [], [qvK (.ofNat 1)], [], []), 0, 0)])
noncomputable def c12_3_e : List Ct := []
noncomputable def c12_3_pts : List PE := []
set_option maxRecDepth 100000 in
theorem c12_3_k : enCtF c12_3 c12_3_e (pkP (c12_3_pts ++ []) []) (none) noH 3000 = true := by decide +kernel
set_option maxRecDepth 100000 in
theorem c12_3_v : ValidC PPk c12_3 := ct_ok fpk noH_ok (d := 0) (ext := []) (pts := c12_3_pts) (env := c12_3_e) rfl (fun _ h => (by cases h)) ext_nil (fun q h => (by cases h)) (enF c12_3_k) (fun _ h => (by cases h))

noncomputable def c12_4 : Ct := (12, 1, (1, [qtA 0], [], [qvS 0, qvK (.ofNat 0), qvK (.ofNat 1)], [], []),
  [((1, [(0, (.negSucc 2147483647), (.negSucc 0))], [], [qvK (.ofNat 0)], [], []), 0, 0),
   ((1, [qtN 0 2 2147483647], [], [qvK (.ofNat 0)], [], []), 0, 0),
   ((1, [qtN 0 0 1], [], [qvK (.ofNat 1)], [], []), 0, 0)])
noncomputable def c12_4_e : List Ct := []
noncomputable def c12_4_pts : List PE := []
set_option maxRecDepth 100000 in
theorem c12_4_k : enCtF c12_4 c12_4_e (pkP (c12_4_pts ++ []) []) (none) noH 3000 = true := by decide +kernel
set_option maxRecDepth 100000 in
theorem c12_4_v : ValidC PPk c12_4 := ct_ok fpk noH_ok (d := 0) (ext := []) (pts := c12_4_pts) (env := c12_4_e) rfl (fun _ h => (by cases h)) ext_nil (fun q h => (by cases h)) (enF c12_4_k) (fun _ h => (by cases h))

noncomputable def c12_5 : Ct := (12, 1, (1, [qtA 0], [], [qvS 0, qvK (.ofNat 0), qvK (.ofNat 7)], [], []),
  [((1, [(0, (.negSucc 2147483647), (.negSucc 0))], [], [qvK (.ofNat 0)], [], []), 0, 0),
   ((1, [qtN 0 8 2147483647], [], [qvK (.ofNat 0)], [], []), 0, 0),
   ((1, [qtN 0 0 7], [], [qvK (.ofNat 1)], [], []), 0, 0)])
noncomputable def c12_5_e : List Ct := []
noncomputable def c12_5_pts : List PE := []
set_option maxRecDepth 100000 in
theorem c12_5_k : enCtF c12_5 c12_5_e (pkP (c12_5_pts ++ []) []) (none) noH 3000 = true := by decide +kernel
set_option maxRecDepth 100000 in
theorem c12_5_v : ValidC PPk c12_5 := ct_ok fpk noH_ok (d := 0) (ext := []) (pts := c12_5_pts) (env := c12_5_e) rfl (fun _ h => (by cases h)) ext_nil (fun q h => (by cases h)) (enF c12_5_k) (fun _ h => (by cases h))

noncomputable def c16_0 : Ct := (16, 3, (4, [qtA 0, qtA 1, qtA 2, qtA 3], [], [qvS 0, qvS 1, qvS 2, qvS 3], [], []),
  [((4, [(0, (.negSucc 2147483647), (.negSucc 0))], [], [qvK (.ofNat 0)], [], []), 0, 0),
   ((4, [qtN 0 11 2147483647], [], [qvK (.ofNat 0)], [], []), 0, 0),
   ((4, [qtN 0 0 10, (1, (.negSucc 2147483647), (.negSucc 0))], [], [qvK (.ofNat 0)], [], []), 0, 0),
   ((4, [qtN 0 0 10, qtN 1 12 2147483647], [], [qvK (.ofNat 0)], [], []), 0, 0),
   ((4, [qtN 0 0 0, qtN 1 0 11], [], [qvK (.ofNat 1)], [], []), 0, 0),
   ((4, [qtN 0 1 1, qtN 1 0 11, (2, (.negSucc 2147483647), (.negSucc 0))], [], [qvK (.ofNat 0)], [], []), 0, 0),
   ((4, [qtN 0 1 1, qtN 1 0 11, qtN 2 12 2147483647], [], [qvK (.ofNat 0)], [], []), 0, 0),
   ((4, [qtN 0 1 1, qtN 1 0 11, qtN 2 0 11, (3, (.negSucc 2147483647), (.negSucc 0))], [], [qvK (.ofNat 0)], [], []), 0, 0),
   ((4, [qtN 0 1 1, qtN 1 0 11, qtN 2 0 11, qtN 3 12 2147483647], [], [qvK (.ofNat 0)], [], []), 0, 0),
   ((4, [qtN 0 1 1, qtN 1 0 11, qtN 2 0 11, qtN 3 0 11], [], [qvK (.ofNat 1)], [], []), 0, 0),
   ((4, [qtN 0 2 2, qtN 1 0 11, (2, (.negSucc 2147483647), (.negSucc 0))], [], [qvK (.ofNat 0)], [], []), 0, 0),
   ((4, [qtN 0 2 2, qtN 1 0 11, qtN 2 12 2147483647], [], [qvK (.ofNat 0)], [], []), 0, 0),
   ((4, [qtN 0 2 2, qtN 1 0 11, qtN 2 0 11, (3, (.negSucc 2147483647), (.negSucc 0))], [], [qvK (.ofNat 0)], [], []), 0, 0),
   ((4, [qtN 0 2 2, qtN 1 0 11, qtN 2 0 11, qtN 3 12 2147483647], [], [qvK (.ofNat 0)], [], []), 0, 0),
   ((4, [qtN 0 2 2, qtN 1 0 11, qtN 2 0 11, qtN 3 0 11], [], [qvK (.ofNat 1)], [], []), 0, 0),
   ((4, [qtN 0 3 3, qtN 1 0 11, (2, (.negSucc 2147483647), (.negSucc 0))], [], [qvK (.ofNat 0)], [], []), 0, 0),
   ((4, [qtN 0 3 3, qtN 1 0 11, qtN 2 12 2147483647], [], [qvK (.ofNat 0)], [], []), 0, 0),
   ((4, [qtN 0 3 3, qtN 1 0 11, qtN 2 0 11, (3, (.negSucc 2147483647), (.negSucc 0))], [], [qvK (.ofNat 0)], [], []), 0, 0),
   ((4, [qtN 0 3 3, qtN 1 0 11, qtN 2 0 11, qtN 3 12 2147483647], [], [qvK (.ofNat 0)], [], []), 0, 0),
   ((4, [qtN 0 3 3, qtN 1 0 11, qtN 2 0 11, qtN 3 0 11], [], [qvK (.ofNat 1)], [], []), 0, 0),
   ((4, [qtN 0 4 4, qtN 1 0 11, (2, (.negSucc 2147483647), (.negSucc 0))], [], [qvK (.ofNat 0)], [], []), 0, 0),
   ((4, [qtN 0 4 4, qtN 1 0 11, qtN 2 12 2147483647], [], [qvK (.ofNat 0)], [], []), 0, 0),
   ((4, [qtN 0 4 4, qtN 1 0 11, qtN 2 0 11, (3, (.negSucc 2147483647), (.negSucc 0))], [], [qvK (.ofNat 0)], [], []), 0, 0),
   ((4, [qtN 0 4 4, qtN 1 0 11, qtN 2 0 11, qtN 3 12 2147483647], [], [qvK (.ofNat 0)], [], []), 0, 0),
   ((4, [qtN 0 4 4, qtN 1 0 11, qtN 2 0 11, qtN 3 0 11], [], [qvK (.ofNat 1)], [], []), 0, 0),
   ((4, [qtN 0 5 5, qtN 1 0 11, (2, (.negSucc 2147483647), (.negSucc 0))], [], [qvK (.ofNat 0)], [], []), 0, 0),
   ((4, [qtN 0 5 5, qtN 1 0 11, qtN 2 12 2147483647], [], [qvK (.ofNat 0)], [], []), 0, 0),
   ((4, [qtN 0 5 5, qtN 1 0 11, qtN 2 0 11, (3, (.negSucc 2147483647), (.negSucc 0))], [], [qvK (.ofNat 0)], [], []), 0, 0),
   ((4, [qtN 0 5 5, qtN 1 0 11, qtN 2 0 11, qtN 3 12 2147483647], [], [qvK (.ofNat 0)], [], []), 0, 0),
   ((4, [qtN 0 5 5, qtN 1 0 11, qtN 2 0 11, qtN 3 0 11], [], [qvK (.ofNat 1)], [], []), 0, 0),
   ((4, [qtN 0 6 6, qtN 1 0 11, (2, (.negSucc 2147483647), (.negSucc 0))], [], [qvK (.ofNat 0)], [], []), 0, 0),
   ((4, [qtN 0 6 6, qtN 1 0 11, qtN 2 12 2147483647], [], [qvK (.ofNat 0)], [], []), 0, 0),
   ((4, [qtN 0 6 6, qtN 1 0 11, qtN 2 0 11, (3, (.negSucc 2147483647), (.negSucc 0))], [], [qvK (.ofNat 0)], [], []), 0, 0),
   ((4, [qtN 0 6 6, qtN 1 0 11, qtN 2 0 11, qtN 3 12 2147483647], [], [qvK (.ofNat 0)], [], []), 0, 0),
   ((4, [qtN 0 6 6, qtN 1 0 11, qtN 2 0 11, qtN 3 0 11], [], [qvK (.ofNat 1)], [], []), 0, 0),
   ((4, [qtN 0 7 7, qtN 1 0 11, (2, (.negSucc 2147483647), (.ofNat 0))], [], [qvK (.ofNat 0)], [], []), 0, 0),
   ((4, [qtN 0 7 7, qtN 1 0 11, qtN 2 21 2147483647], [], [qvK (.ofNat 0)], [], []), 0, 0),
   ((4, [qtN 0 7 7, qtN 1 0 11, qtN 2 1 20], [], [qvK (.ofNat 1)], [], []), 0, 0),
   ((4, [qtN 0 8 8, qtN 1 0 11, (2, (.negSucc 2147483647), (.negSucc 0))], [], [qvK (.ofNat 0)], [], []), 0, 0),
   ((4, [qtN 0 8 8, qtN 1 0 11, qtN 2 2 2147483647], [], [qvK (.ofNat 0)], [], []), 0, 0),
   ((4, [qtN 0 8 8, qtN 1 0 11, qtN 2 0 1], [], [qvK (.ofNat 1)], [], []), 0, 0),
   ((4, [qtN 0 9 9, qtN 1 0 11, (2, (.negSucc 2147483647), (.negSucc 0))], [], [qvK (.ofNat 0)], [], []), 0, 0),
   ((4, [qtN 0 9 9, qtN 1 0 11, qtN 2 8 2147483647], [], [qvK (.ofNat 0)], [], []), 0, 0),
   ((4, [qtN 0 9 9, qtN 1 0 11, qtN 2 0 7], [], [qvK (.ofNat 1)], [], []), 0, 0),
   ((4, [qtN 0 10 10, qtN 1 0 11, (2, (.negSucc 2147483647), (.ofNat 0))], [], [qvK (.ofNat 0)], [], []), 0, 0),
   ((4, [qtN 0 10 10, qtN 1 0 11, qtN 2 21 2147483647], [], [qvK (.ofNat 0)], [], []), 0, 0),
   ((4, [qtN 0 10 10, qtN 1 0 11, qtN 2 1 20], [], [qvK (.ofNat 1)], [], []), 0, 0)])
noncomputable def c16_0_e : List Ct := [c12_1, c12_3, c12_4, c12_5, c17_0]
noncomputable def c16_0_pts : List PE := []
set_option maxRecDepth 100000 in
theorem c16_0_k : enCtF c16_0 c16_0_e (pkP (c16_0_pts ++ []) []) (none) noH 3000 = true := by decide +kernel
set_option maxRecDepth 100000 in
theorem c16_0_v : ValidC PPk c16_0 := ct_ok fpk noH_ok (d := 2) (ext := []) (pts := c16_0_pts) (env := c16_0_e) rfl (List.forall_mem_cons.mpr ⟨⟨c12_1_v, Nat.le_of_ble_eq_true rfl⟩, List.forall_mem_cons.mpr ⟨⟨c12_3_v, Nat.le_of_ble_eq_true rfl⟩, List.forall_mem_cons.mpr ⟨⟨c12_4_v, Nat.le_of_ble_eq_true rfl⟩, List.forall_mem_cons.mpr ⟨⟨c12_5_v, Nat.le_of_ble_eq_true rfl⟩, List.forall_mem_cons.mpr ⟨⟨c17_0_v, Nat.le_of_ble_eq_true rfl⟩, fun _ h => (by cases h)⟩⟩⟩⟩⟩) ext_nil (fun q h => (by cases h)) (enF c16_0_k) (fun _ h => (by cases h))

noncomputable def zc46 : AC := qoC 2 [qvK (.ofNat 1), qvR 1, qvR 2, qvR 3, qvR 4]
noncomputable def zc47 : AC := qiC 0 [qgN 0 0 0, qgS 0, qgN 59 0 0]
noncomputable def zc48 : AC := qiC 0 [qgN 0 0 0, qgS 1, qgN 59 0 0]
noncomputable def zc49 : AC := qiC 0 [qgN 0 0 0, qgS 2, qgN 59 0 0]
noncomputable def c18_0 : Ct := (18, 1, (3, [qtA 0, qtA 1, qtA 2], [], [qvR 0, qvK (.ofNat 0), qvS 0, qvS 1, qvS 2], zh8, []),
  [((3, [], [], [], [zc46, qiC 0 [qgN 60 0 0], zc47, zc48, zc49], []), 0, 0)])
noncomputable def c18_0_e : List Ct := []
noncomputable def c18_0_pts : List PE := []
set_option maxRecDepth 100000 in
theorem c18_0_k : enCtF c18_0 c18_0_e (pkP (c18_0_pts ++ []) []) (none) noH 3000 = true := by decide +kernel
set_option maxRecDepth 100000 in
theorem c18_0_v : ValidC PPk c18_0 := ct_ok fpk noH_ok (d := 0) (ext := []) (pts := c18_0_pts) (env := c18_0_e) rfl (fun _ h => (by cases h)) ext_nil (fun q h => (by cases h)) (enF c18_0_k) (fun _ h => (by cases h))

noncomputable def zc50 : AC := qiC 0 [qgN 0 0 0, .inl ((.ofNat 1), []), qgN 59 0 0]
noncomputable def c18_1 : Ct := (18, 1, (3, [qtA 0, qtA 1, qtA 2], [], [qvR 0, qvK (.ofNat 1), qvS 0, qvS 1, qvS 2], zh8, []),
  [((3, [], [], [], [zc46, zc50, zc47, zc48, zc49], []), 0, 0)])
noncomputable def c18_1_e : List Ct := []
noncomputable def c18_1_pts : List PE := []
set_option maxRecDepth 100000 in
theorem c18_1_k : enCtF c18_1 c18_1_e (pkP (c18_1_pts ++ []) []) (none) noH 3000 = true := by decide +kernel
set_option maxRecDepth 100000 in
theorem c18_1_v : ValidC PPk c18_1 := ct_ok fpk noH_ok (d := 0) (ext := []) (pts := c18_1_pts) (env := c18_1_e) rfl (fun _ h => (by cases h)) ext_nil (fun q h => (by cases h)) (enF c18_1_k) (fun _ h => (by cases h))

noncomputable def zc51 : AC := qiC 0 [qgN 0 0 0, .inl ((.ofNat 2), []), qgN 59 0 0]
noncomputable def c18_2 : Ct := (18, 1, (3, [qtA 0, qtA 1, qtA 2], [], [qvR 0, qvK (.ofNat 2), qvS 0, qvS 1, qvS 2], zh8, []),
  [((3, [], [], [], [zc46, zc51, zc47, zc48, zc49], []), 0, 0)])
noncomputable def c18_2_e : List Ct := []
noncomputable def c18_2_pts : List PE := []
set_option maxRecDepth 100000 in
theorem c18_2_k : enCtF c18_2 c18_2_e (pkP (c18_2_pts ++ []) []) (none) noH 3000 = true := by decide +kernel
set_option maxRecDepth 100000 in
theorem c18_2_v : ValidC PPk c18_2 := ct_ok fpk noH_ok (d := 0) (ext := []) (pts := c18_2_pts) (env := c18_2_e) rfl (fun _ h => (by cases h)) ext_nil (fun q h => (by cases h)) (enF c18_2_k) (fun _ h => (by cases h))

noncomputable def zc52 : AC := qiC 0 [qgN 0 0 0, .inl ((.ofNat 3), []), qgN 59 0 0]
noncomputable def c18_3 : Ct := (18, 1, (3, [qtA 0, qtA 1, qtA 2], [], [qvR 0, qvK (.ofNat 3), qvS 0, qvS 1, qvS 2], zh8, []),
  [((3, [], [], [], [zc46, zc52, zc47, zc48, zc49], []), 0, 0)])
noncomputable def c18_3_e : List Ct := []
noncomputable def c18_3_pts : List PE := []
set_option maxRecDepth 100000 in
theorem c18_3_k : enCtF c18_3 c18_3_e (pkP (c18_3_pts ++ []) []) (none) noH 3000 = true := by decide +kernel
set_option maxRecDepth 100000 in
theorem c18_3_v : ValidC PPk c18_3 := ct_ok fpk noH_ok (d := 0) (ext := []) (pts := c18_3_pts) (env := c18_3_e) rfl (fun _ h => (by cases h)) ext_nil (fun q h => (by cases h)) (enF c18_3_k) (fun _ h => (by cases h))

noncomputable def zc53 : AC := qiC 0 [qgN 0 0 0, .inl ((.ofNat 4), []), qgN 59 0 0]
noncomputable def c18_4 : Ct := (18, 1, (3, [qtA 0, qtA 1, qtA 2], [], [qvR 0, qvK (.ofNat 4), qvS 0, qvS 1, qvS 2], zh8, []),
  [((3, [], [], [], [zc46, zc53, zc47, zc48, zc49], []), 0, 0)])
noncomputable def c18_4_e : List Ct := []
noncomputable def c18_4_pts : List PE := []
set_option maxRecDepth 100000 in
theorem c18_4_k : enCtF c18_4 c18_4_e (pkP (c18_4_pts ++ []) []) (none) noH 3000 = true := by decide +kernel
set_option maxRecDepth 100000 in
theorem c18_4_v : ValidC PPk c18_4 := ct_ok fpk noH_ok (d := 0) (ext := []) (pts := c18_4_pts) (env := c18_4_e) rfl (fun _ h => (by cases h)) ext_nil (fun q h => (by cases h)) (enF c18_4_k) (fun _ h => (by cases h))

noncomputable def zc54 : AC := qiC 0 [qgN 0 0 0, .inl ((.ofNat 5), []), qgN 59 0 0]
noncomputable def c18_5 : Ct := (18, 1, (3, [qtA 0, qtA 1, qtA 2], [], [qvR 0, qvK (.ofNat 5), qvS 0, qvS 1, qvS 2], zh8, []),
  [((3, [], [], [], [zc46, zc54, zc47, zc48, zc49], []), 0, 0)])
noncomputable def c18_5_e : List Ct := []
noncomputable def c18_5_pts : List PE := []
set_option maxRecDepth 100000 in
theorem c18_5_k : enCtF c18_5 c18_5_e (pkP (c18_5_pts ++ []) []) (none) noH 3000 = true := by decide +kernel
set_option maxRecDepth 100000 in
theorem c18_5_v : ValidC PPk c18_5 := ct_ok fpk noH_ok (d := 0) (ext := []) (pts := c18_5_pts) (env := c18_5_e) rfl (fun _ h => (by cases h)) ext_nil (fun q h => (by cases h)) (enF c18_5_k) (fun _ h => (by cases h))

noncomputable def zc55 : AC := qiC 0 [qgN 0 0 0, .inl ((.ofNat 6), []), qgN 59 0 0]
noncomputable def c18_6 : Ct := (18, 1, (3, [qtA 0, qtA 1, qtA 2], [], [qvR 0, qvK (.ofNat 6), qvS 0, qvS 1, qvS 2], zh8, []),
  [((3, [], [], [], [zc46, zc55, zc47, zc48, zc49], []), 0, 0)])
noncomputable def c18_6_e : List Ct := []
noncomputable def c18_6_pts : List PE := []
set_option maxRecDepth 100000 in
theorem c18_6_k : enCtF c18_6 c18_6_e (pkP (c18_6_pts ++ []) []) (none) noH 3000 = true := by decide +kernel
set_option maxRecDepth 100000 in
theorem c18_6_v : ValidC PPk c18_6 := ct_ok fpk noH_ok (d := 0) (ext := []) (pts := c18_6_pts) (env := c18_6_e) rfl (fun _ h => (by cases h)) ext_nil (fun q h => (by cases h)) (enF c18_6_k) (fun _ h => (by cases h))

noncomputable def zc56 : AC := qiC 0 [qgN 0 0 0, .inl ((.ofNat 7), []), qgN 59 0 0]
noncomputable def c18_7 : Ct := (18, 1, (3, [qtA 0, qtA 1, qtA 2], [], [qvR 0, qvK (.ofNat 7), qvS 0, qvS 1, qvS 2], zh8, []),
  [((3, [], [], [], [zc46, zc56, zc47, zc48, zc49], []), 0, 0)])
noncomputable def c18_7_e : List Ct := []
noncomputable def c18_7_pts : List PE := []
set_option maxRecDepth 100000 in
theorem c18_7_k : enCtF c18_7 c18_7_e (pkP (c18_7_pts ++ []) []) (none) noH 3000 = true := by decide +kernel
set_option maxRecDepth 100000 in
theorem c18_7_v : ValidC PPk c18_7 := ct_ok fpk noH_ok (d := 0) (ext := []) (pts := c18_7_pts) (env := c18_7_e) rfl (fun _ h => (by cases h)) ext_nil (fun q h => (by cases h)) (enF c18_7_k) (fun _ h => (by cases h))

noncomputable def zc57 : AC := qiC 0 [qgN 0 0 0, .inl ((.ofNat 8), []), qgN 59 0 0]
noncomputable def c18_8 : Ct := (18, 1, (3, [qtA 0, qtA 1, qtA 2], [], [qvR 0, qvK (.ofNat 8), qvS 0, qvS 1, qvS 2], zh8, []),
  [((3, [], [], [], [zc46, zc57, zc47, zc48, zc49], []), 0, 0)])
noncomputable def c18_8_e : List Ct := []
noncomputable def c18_8_pts : List PE := []
set_option maxRecDepth 100000 in
theorem c18_8_k : enCtF c18_8 c18_8_e (pkP (c18_8_pts ++ []) []) (none) noH 3000 = true := by decide +kernel
set_option maxRecDepth 100000 in
theorem c18_8_v : ValidC PPk c18_8 := ct_ok fpk noH_ok (d := 0) (ext := []) (pts := c18_8_pts) (env := c18_8_e) rfl (fun _ h => (by cases h)) ext_nil (fun q h => (by cases h)) (enF c18_8_k) (fun _ h => (by cases h))

noncomputable def zc58 : AC := qiC 0 [qgN 0 0 0, .inl ((.ofNat 9), []), qgN 59 0 0]
noncomputable def c18_9 : Ct := (18, 1, (3, [qtA 0, qtA 1, qtA 2], [], [qvR 0, qvK (.ofNat 9), qvS 0, qvS 1, qvS 2], zh8, []),
  [((3, [], [], [], [zc46, zc58, zc47, zc48, zc49], []), 0, 0)])
noncomputable def c18_9_e : List Ct := []
noncomputable def c18_9_pts : List PE := []
set_option maxRecDepth 100000 in
theorem c18_9_k : enCtF c18_9 c18_9_e (pkP (c18_9_pts ++ []) []) (none) noH 3000 = true := by decide +kernel
set_option maxRecDepth 100000 in
theorem c18_9_v : ValidC PPk c18_9 := ct_ok fpk noH_ok (d := 0) (ext := []) (pts := c18_9_pts) (env := c18_9_e) rfl (fun _ h => (by cases h)) ext_nil (fun q h => (by cases h)) (enF c18_9_k) (fun _ h => (by cases h))

noncomputable def zc59 : AC := qiC 0 [qgN 0 0 0, .inl ((.ofNat 10), []), qgN 59 0 0]
noncomputable def c18_10 : Ct := (18, 1, (3, [qtA 0, qtA 1, qtA 2], [], [qvR 0, qvK (.ofNat 10), qvS 0, qvS 1, qvS 2], zh8, []),
  [((3, [], [], [], [zc46, zc59, zc47, zc48, zc49], []), 0, 0)])
noncomputable def c18_10_e : List Ct := []
noncomputable def c18_10_pts : List PE := []
set_option maxRecDepth 100000 in
theorem c18_10_k : enCtF c18_10 c18_10_e (pkP (c18_10_pts ++ []) []) (none) noH 3000 = true := by decide +kernel
set_option maxRecDepth 100000 in
theorem c18_10_v : ValidC PPk c18_10 := ct_ok fpk noH_ok (d := 0) (ext := []) (pts := c18_10_pts) (env := c18_10_e) rfl (fun _ h => (by cases h)) ext_nil (fun q h => (by cases h)) (enF c18_10_k) (fun _ h => (by cases h))

noncomputable def zc60 : AC := qoC 2 [qvK (.ofNat 1), qvR 4, qvR 5, qvR 6, qvR 7]
noncomputable def zc61 : AC := qiC 0 [qgN 0 0 0, qgS 3, qgN 59 0 0]
noncomputable def c15_0 : Ct := (15, 4, (4, [qtA 0, qtA 1, qtA 2, qtA 3], [], [qvR 0, qvS 0, qvS 1, qvS 2, qvS 3], zh43, []),
  [((4, [(0, (.negSucc 2147483647), (.negSucc 0))], [], [qvK (.negSucc 1)], zh43, []), 0, 0),
   ((4, [qtN 0 11 2147483647], [], [qvK (.negSucc 1)], zh43, []), 0, 0),
   ((4, [qtN 0 0 10, (1, (.negSucc 2147483647), (.negSucc 0))], [], [qvK (.negSucc 1)], zh43, []), 0, 0),
   ((4, [qtN 0 0 10, qtN 1 12 2147483647], [], [qvK (.negSucc 1)], zh43, []), 0, 0),
   ((4, [qtN 0 0 0, qtN 1 0 11], [], [qvK (.ofNat 0)], [zc23, zc15, qrC 4 [some 3, some 8], zc60, qiC 0 [qgN 60 0 0], zc48, zc49, zc61, zc17, qiC 0 [qgN 60 0 0], qiC 0 [qgN 60 0 0], qiC 0 [qgN 60 0 0], qiC 0 [qgN 60 0 0], zc18, qiC 0 [qgN 6 0 0], qiC 0 [qgN 6 0 0], qiC 0 [qgN 8 0 0], qiC 0 [qgN 8 0 0], qiC 0 [qgN 8 0 0], qiC 0 [qgN 8 0 0], qiC 0 [qgN 8 0 0], zc19, qiC 0 [qgN 6 0 0], qiC 0 [qgN 6 0 0], qiC 0 [qgN 6 0 0], qiC 0 [qgN 6 0 0], zc9, zc10, zc20, qiC 2 [qgN 60 0 0], qiC 0 [qgN 60 0 0], qjC 1 1000000060, zc21, qiC 0 [qgN 8 0 0], qiC 0 [qgN 8 0 0], qiC 0 [qgN 8 0 0], qiC 0 [qgN 8 0 0], qiC 0 [qgN 8 0 0], qiC 0 [qgN 10 0 0], qiC 0 [qgN 4 0 0], qiC 0 [qgN 4 0 0], zc37, zc38, zc39, qiC 0 [qgN 12 0 0], zc40, qiC 0 [qgN 12 0 0], zc41, qiC 0 [qgN 12 0 0], zc24, qiC 0 [qgN 12 0 0], zc42, qiC 0 [qgN 32 0 0], qiC 0 [qgN 8 0 0], qiC 0 [qgN 8 0 0], qiC 0 [qgN 2 0 0], qiC 0 [qgN 6 0 0], zc26, qjC 1 1000000006, qjC 1 1000000004, qrC 6 [none, none], qrC 7 [none, none]], []), 0, 0),
   ((4, [qtN 0 1 1, qtN 1 0 11, (2, (.negSucc 2147483647), (.negSucc 0))], [], [qvK (.negSucc 1)], zh43, []), 0, 0),
   ((4, [qtN 0 1 1, qtN 1 0 11, qtN 2 12 2147483647], [], [qvK (.negSucc 1)], zh43, []), 0, 0),
   ((4, [qtN 0 1 1, qtN 1 0 11, qtN 2 0 11, (3, (.negSucc 2147483647), (.negSucc 0))], [], [qvK (.negSucc 1)], zh43, []), 0, 0),
   ((4, [qtN 0 1 1, qtN 1 0 11, qtN 2 0 11, qtN 3 12 2147483647], [], [qvK (.negSucc 1)], zh43, []), 0, 0),
   ((4, [qtN 0 1 1, qtN 1 0 11, qtN 2 0 11, qtN 3 0 11], [], [qvK (.ofNat 0)], [zc23, zc15, qrC 4 [some 3, some 8], zc60, zc50, zc48, zc49, zc61, zc17, qiC 0 [qgN 60 0 0], qiC 0 [qgN 60 0 0], qiC 0 [qgN 60 0 0], qiC 0 [qgN 60 0 0], zc18, qiC 0 [qgN 6 0 0], qiC 0 [qgN 6 0 0], qiC 0 [qgN 8 0 0], qiC 0 [qgN 8 0 0], qiC 0 [qgN 8 0 0], qiC 0 [qgN 8 0 0], qiC 0 [qgN 8 0 0], zc19, qiC 0 [qgN 6 0 0], qiC 0 [qgN 6 0 0], qiC 0 [qgN 6 0 0], qiC 0 [qgN 6 0 0], zc9, zc10, zc20, qiC 2 [qgN 60 0 0], qiC 0 [qgN 60 0 0], qjC 1 1000000060, zc21, qiC 0 [qgN 8 0 0], qiC 0 [qgN 8 0 0], qiC 0 [qgN 8 0 0], qiC 0 [qgN 8 0 0], qiC 0 [qgN 8 0 0], qiC 0 [qgN 10 0 0], qiC 0 [qgN 4 0 0], qiC 0 [qgN 4 0 0], zc37, zc38, zc39, qiC 0 [qgN 12 0 0], zc40, qiC 0 [qgN 12 0 0], zc41, qiC 0 [qgN 12 0 0], zc24, qiC 0 [qgN 12 0 0], zc42, qiC 0 [qgN 32 0 0], qiC 0 [qgN 8 0 0], qiC 0 [qgN 8 0 0], qiC 0 [qgN 2 0 0], qiC 0 [qgN 6 0 0], zc26, qjC 1 1000000006, qjC 1 1000000004, qrC 6 [none, none], qrC 7 [none, none]], []), 0, 0),
   ((4, [qtN 0 2 2, qtN 1 0 11, (2, (.negSucc 2147483647), (.negSucc 0))], [], [qvK (.negSucc 1)], zh43, []), 0, 0),
   ((4, [qtN 0 2 2, qtN 1 0 11, qtN 2 12 2147483647], [], [qvK (.negSucc 1)], zh43, []), 0, 0),
   ((4, [qtN 0 2 2, qtN 1 0 11, qtN 2 0 11, (3, (.negSucc 2147483647), (.negSucc 0))], [], [qvK (.negSucc 1)], zh43, []), 0, 0),
   ((4, [qtN 0 2 2, qtN 1 0 11, qtN 2 0 11, qtN 3 12 2147483647], [], [qvK (.negSucc 1)], zh43, []), 0, 0),
   ((4, [qtN 0 2 2, qtN 1 0 11, qtN 2 0 11, qtN 3 0 11], [], [qvK (.ofNat 0)], [zc23, zc15, qrC 4 [some 3, some 8], zc60, zc51, zc48, zc49, zc61, zc17, qiC 0 [qgN 60 0 0], qiC 0 [qgN 60 0 0], qiC 0 [qgN 60 0 0], qiC 0 [qgN 60 0 0], zc18, qiC 0 [qgN 6 0 0], qiC 0 [qgN 6 0 0], qiC 0 [qgN 8 0 0], qiC 0 [qgN 8 0 0], qiC 0 [qgN 8 0 0], qiC 0 [qgN 8 0 0], qiC 0 [qgN 8 0 0], zc19, qiC 0 [qgN 6 0 0], qiC 0 [qgN 6 0 0], qiC 0 [qgN 6 0 0], qiC 0 [qgN 6 0 0], zc9, zc10, zc20, qiC 2 [qgN 60 0 0], qiC 0 [qgN 60 0 0], qjC 1 1000000060, zc21, qiC 0 [qgN 8 0 0], qiC 0 [qgN 8 0 0], qiC 0 [qgN 8 0 0], qiC 0 [qgN 8 0 0], qiC 0 [qgN 8 0 0], qiC 0 [qgN 10 0 0], qiC 0 [qgN 4 0 0], qiC 0 [qgN 4 0 0], zc37, zc38, zc39, qiC 0 [qgN 12 0 0], zc40, qiC 0 [qgN 12 0 0], zc41, qiC 0 [qgN 12 0 0], zc24, qiC 0 [qgN 12 0 0], zc42, qiC 0 [qgN 32 0 0], qiC 0 [qgN 8 0 0], qiC 0 [qgN 8 0 0], qiC 0 [qgN 2 0 0], qiC 0 [qgN 6 0 0], zc26, qjC 1 1000000006, qjC 1 1000000004, qrC 6 [none, none], qrC 7 [none, none]], []), 0, 0),
   ((4, [qtN 0 3 3, qtN 1 0 11, (2, (.negSucc 2147483647), (.negSucc 0))], [], [qvK (.negSucc 1)], zh43, []), 0, 0),
   ((4, [qtN 0 3 3, qtN 1 0 11, qtN 2 12 2147483647], [], [qvK (.negSucc 1)], zh43, []), 0, 0),
   ((4, [qtN 0 3 3, qtN 1 0 11, qtN 2 0 11, (3, (.negSucc 2147483647), (.negSucc 0))], [], [qvK (.negSucc 1)], zh43, []), 0, 0),
   ((4, [qtN 0 3 3, qtN 1 0 11, qtN 2 0 11, qtN 3 12 2147483647], [], [qvK (.negSucc 1)], zh43, []), 0, 0),
   ((4, [qtN 0 3 3, qtN 1 0 11, qtN 2 0 11, qtN 3 0 11], [], [qvK (.ofNat 0)], [zc23, zc15, qrC 4 [some 3, some 8], zc60, zc52, zc48, zc49, zc61, zc17, qiC 0 [qgN 60 0 0], qiC 0 [qgN 60 0 0], qiC 0 [qgN 60 0 0], qiC 0 [qgN 60 0 0], zc18, qiC 0 [qgN 6 0 0], qiC 0 [qgN 6 0 0], qiC 0 [qgN 8 0 0], qiC 0 [qgN 8 0 0], qiC 0 [qgN 8 0 0], qiC 0 [qgN 8 0 0], qiC 0 [qgN 8 0 0], zc19, qiC 0 [qgN 6 0 0], qiC 0 [qgN 6 0 0], qiC 0 [qgN 6 0 0], qiC 0 [qgN 6 0 0], zc9, zc10, zc20, qiC 2 [qgN 60 0 0], qiC 0 [qgN 60 0 0], qjC 1 1000000060, zc21, qiC 0 [qgN 8 0 0], qiC 0 [qgN 8 0 0], qiC 0 [qgN 8 0 0], qiC 0 [qgN 8 0 0], qiC 0 [qgN 8 0 0], qiC 0 [qgN 10 0 0], qiC 0 [qgN 4 0 0], qiC 0 [qgN 4 0 0], zc37, zc38, zc39, qiC 0 [qgN 12 0 0], zc40, qiC 0 [qgN 12 0 0], zc41, qiC 0 [qgN 12 0 0], zc24, qiC 0 [qgN 12 0 0], zc42, qiC 0 [qgN 32 0 0], qiC 0 [qgN 8 0 0], qiC 0 [qgN 8 0 0], qiC 0 [qgN 2 0 0], qiC 0 [qgN 6 0 0], zc26, qjC 1 1000000006, qjC 1 1000000004, qrC 6 [none, none], qrC 7 [none, none]], []), 0, 0),
   ((4, [qtN 0 4 4, qtN 1 0 11, (2, (.negSucc 2147483647), (.negSucc 0))], [], [qvK (.negSucc 1)], zh43, []), 0, 0),
   ((4, [qtN 0 4 4, qtN 1 0 11, qtN 2 12 2147483647], [], [qvK (.negSucc 1)], zh43, []), 0, 0),
   ((4, [qtN 0 4 4, qtN 1 0 11, qtN 2 0 11, (3, (.negSucc 2147483647), (.negSucc 0))], [], [qvK (.negSucc 1)], zh43, []), 0, 0),
   ((4, [qtN 0 4 4, qtN 1 0 11, qtN 2 0 11, qtN 3 12 2147483647], [], [qvK (.negSucc 1)], zh43, []), 0, 0),
   ((4, [qtN 0 4 4, qtN 1 0 11, qtN 2 0 11, qtN 3 0 11], [], [qvK (.ofNat 0)], [zc23, zc15, qrC 4 [some 3, some 8], zc60, zc53, zc48, zc49, zc61, zc17, qiC 0 [qgN 60 0 0], qiC 0 [qgN 60 0 0], qiC 0 [qgN 60 0 0], qiC 0 [qgN 60 0 0], zc18, qiC 0 [qgN 6 0 0], qiC 0 [qgN 6 0 0], qiC 0 [qgN 8 0 0], qiC 0 [qgN 8 0 0], qiC 0 [qgN 8 0 0], qiC 0 [qgN 8 0 0], qiC 0 [qgN 8 0 0], zc19, qiC 0 [qgN 6 0 0], qiC 0 [qgN 6 0 0], qiC 0 [qgN 6 0 0], qiC 0 [qgN 6 0 0], zc9, zc10, zc20, qiC 2 [qgN 60 0 0], qiC 0 [qgN 60 0 0], qjC 1 1000000060, zc21, qiC 0 [qgN 8 0 0], qiC 0 [qgN 8 0 0], qiC 0 [qgN 8 0 0], qiC 0 [qgN 8 0 0], qiC 0 [qgN 8 0 0], qiC 0 [qgN 10 0 0], qiC 0 [qgN 4 0 0], qiC 0 [qgN 4 0 0], zc37, zc38, zc39, qiC 0 [qgN 12 0 0], zc40, qiC 0 [qgN 12 0 0], zc41, qiC 0 [qgN 12 0 0], zc24, qiC 0 [qgN 12 0 0], zc42, qiC 0 [qgN 32 0 0], qiC 0 [qgN 8 0 0], qiC 0 [qgN 8 0 0], qiC 0 [qgN 2 0 0], qiC 0 [qgN 6 0 0], zc26, qjC 1 1000000006, qjC 1 1000000004, qrC 6 [none, none], qrC 7 [none, none]], []), 0, 0),
   ((4, [qtN 0 5 5, qtN 1 0 11, (2, (.negSucc 2147483647), (.negSucc 0))], [], [qvK (.negSucc 1)], zh43, []), 0, 0),
   ((4, [qtN 0 5 5, qtN 1 0 11, qtN 2 12 2147483647], [], [qvK (.negSucc 1)], zh43, []), 0, 0),
   ((4, [qtN 0 5 5, qtN 1 0 11, qtN 2 0 11, (3, (.negSucc 2147483647), (.negSucc 0))], [], [qvK (.negSucc 1)], zh43, []), 0, 0),
   ((4, [qtN 0 5 5, qtN 1 0 11, qtN 2 0 11, qtN 3 12 2147483647], [], [qvK (.negSucc 1)], zh43, []), 0, 0),
   ((4, [qtN 0 5 5, qtN 1 0 11, qtN 2 0 11, qtN 3 0 11], [], [qvK (.ofNat 0)], [zc23, zc15, qrC 4 [some 3, some 8], zc60, zc54, zc48, zc49, zc61, zc17, qiC 0 [qgN 60 0 0], qiC 0 [qgN 60 0 0], qiC 0 [qgN 60 0 0], qiC 0 [qgN 60 0 0], zc18, qiC 0 [qgN 6 0 0], qiC 0 [qgN 6 0 0], qiC 0 [qgN 8 0 0], qiC 0 [qgN 8 0 0], qiC 0 [qgN 8 0 0], qiC 0 [qgN 8 0 0], qiC 0 [qgN 8 0 0], zc19, qiC 0 [qgN 6 0 0], qiC 0 [qgN 6 0 0], qiC 0 [qgN 6 0 0], qiC 0 [qgN 6 0 0], zc9, zc10, zc20, qiC 2 [qgN 60 0 0], qiC 0 [qgN 60 0 0], qjC 1 1000000060, zc21, qiC 0 [qgN 8 0 0], qiC 0 [qgN 8 0 0], qiC 0 [qgN 8 0 0], qiC 0 [qgN 8 0 0], qiC 0 [qgN 8 0 0], qiC 0 [qgN 10 0 0], qiC 0 [qgN 4 0 0], qiC 0 [qgN 4 0 0], zc37, zc38, zc39, qiC 0 [qgN 12 0 0], zc40, qiC 0 [qgN 12 0 0], zc41, qiC 0 [qgN 12 0 0], zc24, qiC 0 [qgN 12 0 0], zc42, qiC 0 [qgN 32 0 0], qiC 0 [qgN 8 0 0], qiC 0 [qgN 8 0 0], qiC 0 [qgN 2 0 0], qiC 0 [qgN 6 0 0], zc26, qjC 1 1000000006, qjC 1 1000000004, qrC 6 [none, none], qrC 7 [none, none]], []), 0, 0),
   ((4, [qtN 0 6 6, qtN 1 0 11, (2, (.negSucc 2147483647), (.negSucc 0))], [], [qvK (.negSucc 1)], zh43, []), 0, 0),
   ((4, [qtN 0 6 6, qtN 1 0 11, qtN 2 12 2147483647], [], [qvK (.negSucc 1)], zh43, []), 0, 0),
   ((4, [qtN 0 6 6, qtN 1 0 11, qtN 2 0 11, (3, (.negSucc 2147483647), (.negSucc 0))], [], [qvK (.negSucc 1)], zh43, []), 0, 0),
   ((4, [qtN 0 6 6, qtN 1 0 11, qtN 2 0 11, qtN 3 12 2147483647], [], [qvK (.negSucc 1)], zh43, []), 0, 0),
   ((4, [qtN 0 6 6, qtN 1 0 11, qtN 2 0 11, qtN 3 0 11], [], [qvK (.ofNat 0)], [zc23, zc15, qrC 4 [some 3, some 8], zc60, zc55, zc48, zc49, zc61, zc17, qiC 0 [qgN 60 0 0], qiC 0 [qgN 60 0 0], qiC 0 [qgN 60 0 0], qiC 0 [qgN 60 0 0], zc18, qiC 0 [qgN 6 0 0], qiC 0 [qgN 6 0 0], qiC 0 [qgN 8 0 0], qiC 0 [qgN 8 0 0], qiC 0 [qgN 8 0 0], qiC 0 [qgN 8 0 0], qiC 0 [qgN 8 0 0], zc19, qiC 0 [qgN 6 0 0], qiC 0 [qgN 6 0 0], qiC 0 [qgN 6 0 0], qiC 0 [qgN 6 0 0], zc9, zc10, zc20, qiC 2 [qgN 60 0 0], qiC 0 [qgN 60 0 0], qjC 1 1000000060, zc21, qiC 0 [qgN 8 0 0], qiC 0 [qgN 8 0 0], qiC 0 [qgN 8 0 0], qiC 0 [qgN 8 0 0], qiC 0 [qgN 8 0 0], qiC 0 [qgN 10 0 0], qiC 0 [qgN 4 0 0], qiC 0 [qgN 4 0 0], zc37, zc38, zc39, qiC 0 [qgN 12 0 0], zc40, qiC 0 [qgN 12 0 0], zc41, qiC 0 [qgN 12 0 0], zc24, qiC 0 [qgN 12 0 0], zc42, qiC 0 [qgN 32 0 0], qiC 0 [qgN 8 0 0], qiC 0 [qgN 8 0 0], qiC 0 [qgN 2 0 0], qiC 0 [qgN 6 0 0], zc26, qjC 1 1000000006, qjC 1 1000000004, qrC 6 [none, none], qrC 7 [none, none]], []), 0, 0),
   ((4, [qtN 0 7 7, qtN 1 0 11, (2, (.negSucc 2147483647), (.ofNat 0))], [], [qvK (.negSucc 1)], zh43, []), 0, 0),
   ((4, [qtN 0 7 7, qtN 1 0 11, qtN 2 21 2147483647], [], [qvK (.negSucc 1)], zh43, []), 0, 0),
   ((4, [qtN 0 7 7, qtN 1 0 11, qtN 2 1 20], [], [qvK (.ofNat 0)], [zc23, zc15, qrC 4 [some 3, some 8], zc60, zc56, zc48, zc49, zc61, zc17, qiC 0 [qgN 60 0 0], qiC 0 [qgN 60 0 0], qiC 0 [qgN 60 0 0], qiC 0 [qgN 60 0 0], zc18, qiC 0 [qgN 6 0 0], qiC 0 [qgN 6 0 0], qiC 0 [qgN 8 0 0], qiC 0 [qgN 8 0 0], qiC 0 [qgN 8 0 0], qiC 0 [qgN 8 0 0], qiC 0 [qgN 8 0 0], zc19, qiC 0 [qgN 6 0 0], qiC 0 [qgN 6 0 0], qiC 0 [qgN 6 0 0], qiC 0 [qgN 6 0 0], zc9, zc10, zc20, qiC 2 [qgN 60 0 0], qiC 0 [qgN 60 0 0], qjC 1 1000000060, zc21, qiC 0 [qgN 8 0 0], qiC 0 [qgN 8 0 0], qiC 0 [qgN 8 0 0], qiC 0 [qgN 8 0 0], qiC 0 [qgN 8 0 0], qiC 0 [qgN 10 0 0], qiC 0 [qgN 4 0 0], qiC 0 [qgN 4 0 0], zc37, zc38, zc39, qiC 0 [qgN 12 0 0], zc40, qiC 0 [qgN 12 0 0], zc41, qiC 0 [qgN 12 0 0], zc24, qiC 0 [qgN 12 0 0], zc42, qiC 0 [qgN 32 0 0], qiC 0 [qgN 8 0 0], qiC 0 [qgN 8 0 0], qiC 0 [qgN 2 0 0], qiC 0 [qgN 6 0 0], zc26, qjC 1 1000000006, qjC 1 1000000004, qrC 6 [none, none], qrC 7 [none, none]], []), 0, 0),
   ((4, [qtN 0 8 8, qtN 1 0 11, (2, (.negSucc 2147483647), (.negSucc 0))], [], [qvK (.negSucc 1)], zh43, []), 0, 0),
   ((4, [qtN 0 8 8, qtN 1 0 11, qtN 2 2 2147483647], [], [qvK (.negSucc 1)], zh43, []), 0, 0),
   ((4, [qtN 0 8 8, qtN 1 0 11, qtN 2 0 1], [], [qvK (.ofNat 0)], [zc23, zc15, qrC 4 [some 3, some 8], zc60, zc57, zc48, zc49, zc61, zc17, qiC 0 [qgN 60 0 0], qiC 0 [qgN 60 0 0], qiC 0 [qgN 60 0 0], qiC 0 [qgN 60 0 0], zc18, qiC 0 [qgN 6 0 0], qiC 0 [qgN 6 0 0], qiC 0 [qgN 8 0 0], qiC 0 [qgN 8 0 0], qiC 0 [qgN 8 0 0], qiC 0 [qgN 8 0 0], qiC 0 [qgN 8 0 0], zc19, qiC 0 [qgN 6 0 0], qiC 0 [qgN 6 0 0], qiC 0 [qgN 6 0 0], qiC 0 [qgN 6 0 0], zc9, zc10, zc20, qiC 2 [qgN 60 0 0], qiC 0 [qgN 60 0 0], qjC 1 1000000060, zc21, qiC 0 [qgN 8 0 0], qiC 0 [qgN 8 0 0], qiC 0 [qgN 8 0 0], qiC 0 [qgN 8 0 0], qiC 0 [qgN 8 0 0], qiC 0 [qgN 10 0 0], qiC 0 [qgN 4 0 0], qiC 0 [qgN 4 0 0], zc37, zc38, zc39, qiC 0 [qgN 12 0 0], zc40, qiC 0 [qgN 12 0 0], zc41, qiC 0 [qgN 12 0 0], zc24, qiC 0 [qgN 12 0 0], zc42, qiC 0 [qgN 32 0 0], qiC 0 [qgN 8 0 0], qiC 0 [qgN 8 0 0], qiC 0 [qgN 2 0 0], qiC 0 [qgN 6 0 0], zc26, qjC 1 1000000006, qjC 1 1000000004, qrC 6 [none, none], qrC 7 [none, none]], []), 0, 0),
   ((4, [qtN 0 9 9, qtN 1 0 11, (2, (.negSucc 2147483647), (.negSucc 0))], [], [qvK (.negSucc 1)], zh43, []), 0, 0),
   ((4, [qtN 0 9 9, qtN 1 0 11, qtN 2 8 2147483647], [], [qvK (.negSucc 1)], zh43, []), 0, 0),
   ((4, [qtN 0 9 9, qtN 1 0 11, qtN 2 0 7], [], [qvK (.ofNat 0)], [zc23, zc15, qrC 4 [some 3, some 8], zc60, zc58, zc48, zc49, zc61, zc17, qiC 0 [qgN 60 0 0], qiC 0 [qgN 60 0 0], qiC 0 [qgN 60 0 0], qiC 0 [qgN 60 0 0], zc18, qiC 0 [qgN 6 0 0], qiC 0 [qgN 6 0 0], qiC 0 [qgN 8 0 0], qiC 0 [qgN 8 0 0], qiC 0 [qgN 8 0 0], qiC 0 [qgN 8 0 0], qiC 0 [qgN 8 0 0], zc19, qiC 0 [qgN 6 0 0], qiC 0 [qgN 6 0 0], qiC 0 [qgN 6 0 0], qiC 0 [qgN 6 0 0], zc9, zc10, zc20, qiC 2 [qgN 60 0 0], qiC 0 [qgN 60 0 0], qjC 1 1000000060, zc21, qiC 0 [qgN 8 0 0], qiC 0 [qgN 8 0 0], qiC 0 [qgN 8 0 0], qiC 0 [qgN 8 0 0], qiC 0 [qgN 8 0 0], qiC 0 [qgN 10 0 0], qiC 0 [qgN 4 0 0], qiC 0 [qgN 4 0 0], zc37, zc38, zc39, qiC 0 [qgN 12 0 0], zc40, qiC 0 [qgN 12 0 0], zc41, qiC 0 [qgN 12 0 0], zc24, qiC 0 [qgN 12 0 0], zc42, qiC 0 [qgN 32 0 0], qiC 0 [qgN 8 0 0], qiC 0 [qgN 8 0 0], qiC 0 [qgN 2 0 0], qiC 0 [qgN 6 0 0], zc26, qjC 1 1000000006, qjC 1 1000000004, qrC 6 [none, none], qrC 7 [none, none]], []), 0, 0),
   ((4, [qtN 0 10 10, qtN 1 0 11, (2, (.negSucc 2147483647), (.ofNat 0))], [], [qvK (.negSucc 1)], zh43, []), 0, 0),
   ((4, [qtN 0 10 10, qtN 1 0 11, qtN 2 21 2147483647], [], [qvK (.negSucc 1)], zh43, []), 0, 0),
   ((4, [qtN 0 10 10, qtN 1 0 11, qtN 2 1 20], [], [qvK (.ofNat 0)], [zc23, zc15, qrC 4 [some 3, some 8], zc60, zc59, zc48, zc49, zc61, zc17, qiC 0 [qgN 60 0 0], qiC 0 [qgN 60 0 0], qiC 0 [qgN 60 0 0], qiC 0 [qgN 60 0 0], zc18, qiC 0 [qgN 6 0 0], qiC 0 [qgN 6 0 0], qiC 0 [qgN 8 0 0], qiC 0 [qgN 8 0 0], qiC 0 [qgN 8 0 0], qiC 0 [qgN 8 0 0], qiC 0 [qgN 8 0 0], zc19, qiC 0 [qgN 6 0 0], qiC 0 [qgN 6 0 0], qiC 0 [qgN 6 0 0], qiC 0 [qgN 6 0 0], zc9, zc10, zc20, qiC 2 [qgN 60 0 0], qiC 0 [qgN 60 0 0], qjC 1 1000000060, zc21, qiC 0 [qgN 8 0 0], qiC 0 [qgN 8 0 0], qiC 0 [qgN 8 0 0], qiC 0 [qgN 8 0 0], qiC 0 [qgN 8 0 0], qiC 0 [qgN 10 0 0], qiC 0 [qgN 4 0 0], qiC 0 [qgN 4 0 0], zc37, zc38, zc39, qiC 0 [qgN 12 0 0], zc40, qiC 0 [qgN 12 0 0], zc41, qiC 0 [qgN 12 0 0], zc24, qiC 0 [qgN 12 0 0], zc42, qiC 0 [qgN 32 0 0], qiC 0 [qgN 8 0 0], qiC 0 [qgN 8 0 0], qiC 0 [qgN 2 0 0], qiC 0 [qgN 6 0 0], zc26, qjC 1 1000000006, qjC 1 1000000004, qrC 6 [none, none], qrC 7 [none, none]], []), 0, 0)])
noncomputable def c15_0_e : List Ct := [c16_0, c18_0, c18_1, c18_10, c18_2, c18_3, c18_4, c18_5, c18_6, c18_7, c18_8, c18_9]
noncomputable def c15_0_pts : List PE := []
set_option maxRecDepth 100000 in
theorem c15_0_k : enCtF c15_0 c15_0_e (pkP (c15_0_pts ++ []) []) (none) noH 3000 = true := by decide +kernel
set_option maxRecDepth 100000 in
theorem c15_0_v : ValidC PPk c15_0 := ct_ok fpk noH_ok (d := 3) (ext := []) (pts := c15_0_pts) (env := c15_0_e) rfl (List.forall_mem_cons.mpr ⟨⟨c16_0_v, Nat.le_of_ble_eq_true rfl⟩, List.forall_mem_cons.mpr ⟨⟨c18_0_v, Nat.le_of_ble_eq_true rfl⟩, List.forall_mem_cons.mpr ⟨⟨c18_1_v, Nat.le_of_ble_eq_true rfl⟩, List.forall_mem_cons.mpr ⟨⟨c18_10_v, Nat.le_of_ble_eq_true rfl⟩, List.forall_mem_cons.mpr ⟨⟨c18_2_v, Nat.le_of_ble_eq_true rfl⟩, List.forall_mem_cons.mpr ⟨⟨c18_3_v, Nat.le_of_ble_eq_true rfl⟩, List.forall_mem_cons.mpr ⟨⟨c18_4_v, Nat.le_of_ble_eq_true rfl⟩, List.forall_mem_cons.mpr ⟨⟨c18_5_v, Nat.le_of_ble_eq_true rfl⟩, List.forall_mem_cons.mpr ⟨⟨c18_6_v, Nat.le_of_ble_eq_true rfl⟩, List.forall_mem_cons.mpr ⟨⟨c18_7_v, Nat.le_of_ble_eq_true rfl⟩, List.forall_mem_cons.mpr ⟨⟨c18_8_v, Nat.le_of_ble_eq_true rfl⟩, List.forall_mem_cons.mpr ⟨⟨c18_9_v, Nat.le_of_ble_eq_true rfl⟩, fun _ h => (by cases h)⟩⟩⟩⟩⟩⟩⟩⟩⟩⟩⟩⟩) ext_nil (fun q h => (by cases h)) (enF c15_0_k) (fun _ h => (by cases h))

noncomputable def c145_1 : Ct := (145, 1, (1, [qtA 0], [], [qvS 0, qvK (.ofNat 0), qvK (.ofNat 10)], [], []),
  [((1, [(0, (.negSucc 2147483647), (.negSucc 0))], [], [qvK (.ofNat 0)], [], []), 0, 0),
   ((1, [qtN 0 11 2147483647], [], [qvK (.ofNat 0)], [], []), 0, 0),
   ((1, [qtN 0 0 10], [], [qvK (.ofNat 1)], [], []), 0, 0)])
noncomputable def c145_1_e : List Ct := []
noncomputable def c145_1_pts : List PE := []
set_option maxRecDepth 100000 in
theorem c145_1_k : enCtF c145_1 c145_1_e (pkP (c145_1_pts ++ []) []) (none) noH 3000 = true := by decide +kernel
set_option maxRecDepth 100000 in
theorem c145_1_v : ValidC PPk c145_1 := ct_ok fpk noH_ok (d := 0) (ext := []) (pts := c145_1_pts) (env := c145_1_e) rfl (fun _ h => (by cases h)) ext_nil (fun q h => (by cases h)) (enF c145_1_k) (fun _ h => (by cases h))

noncomputable def c145_2 : Ct := (145, 1, (1, [qtA 0], [], [qvS 0, qvK (.ofNat 0), qvK (.ofNat 11)], [], []),
  [((1, [(0, (.negSucc 2147483647), (.negSucc 0))], [], [qvK (.ofNat 0)], [], []), 0, 0),
   ((1, [qtN 0 12 2147483647], [], [qvK (.ofNat 0)], [], []), 0, 0),
   ((1, [qtN 0 0 11], [], [qvK (.ofNat 1)], [], []), 0, 0)])
noncomputable def c145_2_e : List Ct := []
noncomputable def c145_2_pts : List PE := []
set_option maxRecDepth 100000 in
theorem c145_2_k : enCtF c145_2 c145_2_e (pkP (c145_2_pts ++ []) []) (none) noH 3000 = true := by decide +kernel
set_option maxRecDepth 100000 in
theorem c145_2_v : ValidC PPk c145_2 := ct_ok fpk noH_ok (d := 0) (ext := []) (pts := c145_2_pts) (env := c145_2_e) rfl (fun _ h => (by cases h)) ext_nil (fun q h => (by cases h)) (enF c145_2_k) (fun _ h => (by cases h))

noncomputable def c145_3 : Ct := (145, 1, (1, [qtA 0], [], [qvS 0, qvK (.ofNat 1), qvK (.ofNat 20)], [], []),
  [((1, [(0, (.negSucc 2147483647), (.ofNat 0))], [], [qvK (.ofNat 0)], [], []), 0, 0),
   ((1, [qtN 0 21 2147483647], [], [qvK (.ofNat 0)], [], []), 0, 0),
   ((1, [qtN 0 1 20], [], [qvK (.ofNat 1)], [], []), 0, 0)])
noncomputable def c145_3_e : List Ct := []
noncomputable def c145_3_pts : List PE := []
set_option maxRecDepth 100000 in
theorem c145_3_k : enCtF c145_3 c145_3_e (pkP (c145_3_pts ++ []) []) (none) noH 3000 = true := by decide +kernel
set_option maxRecDepth 100000 in
theorem c145_3_v : ValidC PPk c145_3 := ct_ok fpk noH_ok (d := 0) (ext := []) (pts := c145_3_pts) (env := c145_3_e) rfl (fun _ h => (by cases h)) ext_nil (fun q h => (by cases h)) (enF c145_3_k) (fun _ h => (by cases h))

noncomputable def c145_4 : Ct := (145, 1, (1, [qtA 0], [], [qvS 0, qvK (.ofNat 0), qvK (.ofNat 1)], [], []),
  [((1, [(0, (.negSucc 2147483647), (.negSucc 0))], [], [qvK (.ofNat 0)], [], []), 0, 0),
   ((1, [qtN 0 2 2147483647], [], [qvK (.ofNat 0)], [], []), 0, 0),
   ((1, [qtN 0 0 1], [], [qvK (.ofNat 1)], [], []), 0, 0)])
noncomputable def c145_4_e : List Ct := []
noncomputable def c145_4_pts : List PE := []
set_option maxRecDepth 100000 in
theorem c145_4_k : enCtF c145_4 c145_4_e (pkP (c145_4_pts ++ []) []) (none) noH 3000 = true := by decide +kernel
set_option maxRecDepth 100000 in
theorem c145_4_v : ValidC PPk c145_4 := ct_ok fpk noH_ok (d := 0) (ext := []) (pts := c145_4_pts) (env := c145_4_e) rfl (fun _ h => (by cases h)) ext_nil (fun q h => (by cases h)) (enF c145_4_k) (fun _ h => (by cases h))

noncomputable def c145_5 : Ct := (145, 1, (1, [qtA 0], [], [qvS 0, qvK (.ofNat 0), qvK (.ofNat 7)], [], []),
  [((1, [(0, (.negSucc 2147483647), (.negSucc 0))], [], [qvK (.ofNat 0)], [], []), 0, 0),
   ((1, [qtN 0 8 2147483647], [], [qvK (.ofNat 0)], [], []), 0, 0),
   ((1, [qtN 0 0 7], [], [qvK (.ofNat 1)], [], []), 0, 0)])
noncomputable def c145_5_e : List Ct := []
noncomputable def c145_5_pts : List PE := []
set_option maxRecDepth 100000 in
theorem c145_5_k : enCtF c145_5 c145_5_e (pkP (c145_5_pts ++ []) []) (none) noH 3000 = true := by decide +kernel
set_option maxRecDepth 100000 in
theorem c145_5_v : ValidC PPk c145_5 := ct_ok fpk noH_ok (d := 0) (ext := []) (pts := c145_5_pts) (env := c145_5_e) rfl (fun _ h => (by cases h)) ext_nil (fun q h => (by cases h)) (enF c145_5_k) (fun _ h => (by cases h))

noncomputable def c147_0 : Ct := (147, 2, (4, [qtA 0, qtA 1, qtA 2, qtA 3], [], [qvS 0, qvS 1, qvS 2, qvS 3], [], []),
  [((4, [(0, (.negSucc 2147483647), (.negSucc 0))], [], [qvK (.ofNat 0)], [], []), 0, 0),
   ((4, [qtN 0 11 2147483647], [], [qvK (.ofNat 0)], [], []), 0, 0),
   ((4, [qtN 0 0 10, (1, (.negSucc 2147483647), (.negSucc 0))], [], [qvK (.ofNat 0)], [], []), 0, 0),
   ((4, [qtN 0 0 10, qtN 1 12 2147483647], [], [qvK (.ofNat 0)], [], []), 0, 0),
   ((4, [qtN 0 0 0, qtN 1 0 11], [], [qvK (.ofNat 1)], [], []), 0, 0),
   ((4, [qtN 0 1 1, qtN 1 0 11, (2, (.negSucc 2147483647), (.negSucc 0))], [], [qvK (.ofNat 0)], [], []), 0, 0),
   ((4, [qtN 0 1 1, qtN 1 0 11, qtN 2 12 2147483647], [], [qvK (.ofNat 0)], [], []), 0, 0),
   ((4, [qtN 0 1 1, qtN 1 0 11, qtN 2 0 11, (3, (.negSucc 2147483647), (.negSucc 0))], [], [qvK (.ofNat 0)], [], []), 0, 0),
   ((4, [qtN 0 1 1, qtN 1 0 11, qtN 2 0 11, qtN 3 12 2147483647], [], [qvK (.ofNat 0)], [], []), 0, 0),
   ((4, [qtN 0 1 1, qtN 1 0 11, qtN 2 0 11, qtN 3 0 11], [], [qvK (.ofNat 1)], [], []), 0, 0),
   ((4, [qtN 0 2 2, qtN 1 0 11, (2, (.negSucc 2147483647), (.negSucc 0))], [], [qvK (.ofNat 0)], [], []), 0, 0),
   ((4, [qtN 0 2 2, qtN 1 0 11, qtN 2 12 2147483647], [], [qvK (.ofNat 0)], [], []), 0, 0),
   ((4, [qtN 0 2 2, qtN 1 0 11, qtN 2 0 11, (3, (.negSucc 2147483647), (.negSucc 0))], [], [qvK (.ofNat 0)], [], []), 0, 0),
   ((4, [qtN 0 2 2, qtN 1 0 11, qtN 2 0 11, qtN 3 12 2147483647], [], [qvK (.ofNat 0)], [], []), 0, 0),
   ((4, [qtN 0 2 2, qtN 1 0 11, qtN 2 0 11, qtN 3 0 11], [], [qvK (.ofNat 1)], [], []), 0, 0),
   ((4, [qtN 0 3 3, qtN 1 0 11, (2, (.negSucc 2147483647), (.negSucc 0))], [], [qvK (.ofNat 0)], [], []), 0, 0),
   ((4, [qtN 0 3 3, qtN 1 0 11, qtN 2 12 2147483647], [], [qvK (.ofNat 0)], [], []), 0, 0),
   ((4, [qtN 0 3 3, qtN 1 0 11, qtN 2 0 11, (3, (.negSucc 2147483647), (.negSucc 0))], [], [qvK (.ofNat 0)], [], []), 0, 0),
   ((4, [qtN 0 3 3, qtN 1 0 11, qtN 2 0 11, qtN 3 12 2147483647], [], [qvK (.ofNat 0)], [], []), 0, 0),
   ((4, [qtN 0 3 3, qtN 1 0 11, qtN 2 0 11, qtN 3 0 11], [], [qvK (.ofNat 1)], [], []), 0, 0),
   ((4, [qtN 0 4 4, qtN 1 0 11, (2, (.negSucc 2147483647), (.negSucc 0))], [], [qvK (.ofNat 0)], [], []), 0, 0),
   ((4, [qtN 0 4 4, qtN 1 0 11, qtN 2 12 2147483647], [], [qvK (.ofNat 0)], [], []), 0, 0),
   ((4, [qtN 0 4 4, qtN 1 0 11, qtN 2 0 11, (3, (.negSucc 2147483647), (.negSucc 0))], [], [qvK (.ofNat 0)], [], []), 0, 0),
   ((4, [qtN 0 4 4, qtN 1 0 11, qtN 2 0 11, qtN 3 12 2147483647], [], [qvK (.ofNat 0)], [], []), 0, 0),
   ((4, [qtN 0 4 4, qtN 1 0 11, qtN 2 0 11, qtN 3 0 11], [], [qvK (.ofNat 1)], [], []), 0, 0),
   ((4, [qtN 0 5 5, qtN 1 0 11, (2, (.negSucc 2147483647), (.negSucc 0))], [], [qvK (.ofNat 0)], [], []), 0, 0),
   ((4, [qtN 0 5 5, qtN 1 0 11, qtN 2 12 2147483647], [], [qvK (.ofNat 0)], [], []), 0, 0),
   ((4, [qtN 0 5 5, qtN 1 0 11, qtN 2 0 11, (3, (.negSucc 2147483647), (.negSucc 0))], [], [qvK (.ofNat 0)], [], []), 0, 0),
   ((4, [qtN 0 5 5, qtN 1 0 11, qtN 2 0 11, qtN 3 12 2147483647], [], [qvK (.ofNat 0)], [], []), 0, 0),
   ((4, [qtN 0 5 5, qtN 1 0 11, qtN 2 0 11, qtN 3 0 11], [], [qvK (.ofNat 1)], [], []), 0, 0),
   ((4, [qtN 0 6 6, qtN 1 0 11, (2, (.negSucc 2147483647), (.negSucc 0))], [], [qvK (.ofNat 0)], [], []), 0, 0),
   ((4, [qtN 0 6 6, qtN 1 0 11, qtN 2 12 2147483647], [], [qvK (.ofNat 0)], [], []), 0, 0),
   ((4, [qtN 0 6 6, qtN 1 0 11, qtN 2 0 11, (3, (.negSucc 2147483647), (.negSucc 0))], [], [qvK (.ofNat 0)], [], []), 0, 0),
   ((4, [qtN 0 6 6, qtN 1 0 11, qtN 2 0 11, qtN 3 12 2147483647], [], [qvK (.ofNat 0)], [], []), 0, 0),
   ((4, [qtN 0 6 6, qtN 1 0 11, qtN 2 0 11, qtN 3 0 11], [], [qvK (.ofNat 1)], [], []), 0, 0),
   ((4, [qtN 0 7 7, qtN 1 0 11, (2, (.negSucc 2147483647), (.ofNat 0))], [], [qvK (.ofNat 0)], [], []), 0, 0),
   ((4, [qtN 0 7 7, qtN 1 0 11, qtN 2 21 2147483647], [], [qvK (.ofNat 0)], [], []), 0, 0),
   ((4, [qtN 0 7 7, qtN 1 0 11, qtN 2 1 20], [], [qvK (.ofNat 1)], [], []), 0, 0),
   ((4, [qtN 0 8 8, qtN 1 0 11, (2, (.negSucc 2147483647), (.negSucc 0))], [], [qvK (.ofNat 0)], [], []), 0, 0),
   ((4, [qtN 0 8 8, qtN 1 0 11, qtN 2 2 2147483647], [], [qvK (.ofNat 0)], [], []), 0, 0),
   ((4, [qtN 0 8 8, qtN 1 0 11, qtN 2 0 1], [], [qvK (.ofNat 1)], [], []), 0, 0),
   ((4, [qtN 0 9 9, qtN 1 0 11, (2, (.negSucc 2147483647), (.negSucc 0))], [], [qvK (.ofNat 0)], [], []), 0, 0),
   ((4, [qtN 0 9 9, qtN 1 0 11, qtN 2 8 2147483647], [], [qvK (.ofNat 0)], [], []), 0, 0),
   ((4, [qtN 0 9 9, qtN 1 0 11, qtN 2 0 7], [], [qvK (.ofNat 1)], [], []), 0, 0),
   ((4, [qtN 0 10 10, qtN 1 0 11, (2, (.negSucc 2147483647), (.ofNat 0))], [], [qvK (.ofNat 0)], [], []), 0, 0),
   ((4, [qtN 0 10 10, qtN 1 0 11, qtN 2 21 2147483647], [], [qvK (.ofNat 0)], [], []), 0, 0),
   ((4, [qtN 0 10 10, qtN 1 0 11, qtN 2 1 20], [], [qvK (.ofNat 1)], [], []), 0, 0)])
noncomputable def c147_0_e : List Ct := [c145_1, c145_2, c145_3, c145_4, c145_5]
noncomputable def c147_0_pts : List PE := []
set_option maxRecDepth 100000 in
theorem c147_0_k : enCtF c147_0 c147_0_e (pkP (c147_0_pts ++ []) []) (none) noH 3000 = true := by decide +kernel
set_option maxRecDepth 100000 in
theorem c147_0_v : ValidC PPk c147_0 := ct_ok fpk noH_ok (d := 1) (ext := []) (pts := c147_0_pts) (env := c147_0_e) rfl (List.forall_mem_cons.mpr ⟨⟨c145_1_v, Nat.le_of_ble_eq_true rfl⟩, List.forall_mem_cons.mpr ⟨⟨c145_2_v, Nat.le_of_ble_eq_true rfl⟩, List.forall_mem_cons.mpr ⟨⟨c145_3_v, Nat.le_of_ble_eq_true rfl⟩, List.forall_mem_cons.mpr ⟨⟨c145_4_v, Nat.le_of_ble_eq_true rfl⟩, List.forall_mem_cons.mpr ⟨⟨c145_5_v, Nat.le_of_ble_eq_true rfl⟩, fun _ h => (by cases h)⟩⟩⟩⟩⟩) ext_nil (fun q h => (by cases h)) (enF c147_0_k) (fun _ h => (by cases h))

noncomputable def zc62 : AC := qiC 0 [qgN 1 3 3, qgN 7 0 0, qgN 1 3 3, qgN 1 5 5, qgN 7 0 0, qgN 1 100 100, qgN 2 0 0, .inr (1, (.negSucc 0), (.negSucc 0)), qgN 21 0 0, qgN 1 1 1, qgN 39 0 0, qgN 1 1 1, qgN 39 0 0, qgN 1 1 1, qgN 39 0 0, qgN 1 1 1, qgN 621 0 0, .inr (1, (.negSucc 99), (.negSucc 99)), qgN 1 100 100, .inr (1, (.negSucc 99), (.negSucc 99)), qgN 1 100 100, .inr (1, (.negSucc 99), (.negSucc 99)), qgN 1 100 100, .inr (1, (.negSucc 99), (.negSucc 99)), qgN 1 100 100, qgN 118 0 0]
noncomputable def zh63 : AH := [zc27, zc62, qkC 100 3, qkC 103 4, qkC 100 5, qkC 100 6, qkC 100 7, qjC 1 1000000070, qjC 1 1000000008, qkC 100 8, qkC 100 9, qkC 100 10, qkC 100 11, qkC 100 12, qjC 1 1000000004]
noncomputable def c148_0 : Ct := (148, 1, (13, [qtA 0, qtA 1, qtA 2], [], [qvR 0, qvK (.ofNat 200), qvK (.ofNat 1), qvK (.ofNat 0), qvS 0, qvS 1, qvS 2], zh63, []),
  [((13, [], [], [qvK (.ofNat 1)], [zc27, qiC 0 [qgN 1 3 3, qgN 0 0 0, .inl ((.ofNat 1), []), qgN 6 0 0, qgN 1 3 3, qgN 1 5 5, qgN 7 0 0, qgN 1 100 100, qgN 2 0 0, .inr (1, (.negSucc 0), (.negSucc 0)), qgN 21 0 0, qgN 1 1 1, qgN 39 0 0, qgN 1 1 1, qgN 39 0 0, qgN 1 1 1, qgN 39 0 0, qgN 1 1 1, qgN 38 0 0, qgS 0, qgN 0 0 0, qgS 1, qgN 0 0 0, qgS 2, qgN 580 0 0, .inr (1, (.negSucc 99), (.negSucc 99)), qgN 1 100 100, .inr (1, (.negSucc 99), (.negSucc 99)), qgN 1 100 100, .inr (1, (.negSucc 99), (.negSucc 99)), qgN 1 100 100, .inr (1, (.negSucc 99), (.negSucc 99)), qgN 1 100 100, qgN 118 0 0], qkC 100 3, qkC 103 4, qkC 100 5, qkC 100 6, qkC 100 7, qjC 1 1000000070, qjC 1 1000000008, qkC 100 8, qkC 100 9, qkC 100 10, qkC 100 11, qkC 100 12, qjC 1 1000000004], []), 0, 0)])
noncomputable def c148_0_e : List Ct := []
noncomputable def c148_0_pts : List PE := []
set_option maxRecDepth 100000 in
theorem c148_0_k : enCtF c148_0 c148_0_e (pkP (c148_0_pts ++ []) []) (none) noH 3000 = true := by decide +kernel
set_option maxRecDepth 100000 in
theorem c148_0_v : ValidC PPk c148_0 := ct_ok fpk noH_ok (d := 0) (ext := []) (pts := c148_0_pts) (env := c148_0_e) rfl (fun _ h => (by cases h)) ext_nil (fun q h => (by cases h)) (enF c148_0_k) (fun _ h => (by cases h))

noncomputable def c148_1 : Ct := (148, 1, (13, [qtA 0, qtA 1, qtA 2], [], [qvR 0, qvK (.ofNat 200), qvK (.ofNat 1), qvK (.ofNat 1), qvS 0, qvS 1, qvS 2], zh63, []),
  [((13, [], [], [qvK (.ofNat 1)], [zc27, qiC 0 [qgN 1 3 3, qgN 0 0 0, .inl ((.ofNat 1), []), qgN 6 0 0, qgN 1 3 3, qgN 1 5 5, qgN 7 0 0, qgN 1 100 100, qgN 2 0 0, .inr (1, (.negSucc 0), (.negSucc 0)), qgN 21 0 0, qgN 1 1 1, qgN 39 0 0, qgN 1 1 1, qgN 39 0 0, qgN 1 1 1, qgN 39 0 0, qgN 1 1 1, qgN 37 0 0, .inl ((.ofNat 1), []), qgN 0 0 0, qgS 0, qgN 0 0 0, qgS 1, qgN 0 0 0, qgS 2, qgN 580 0 0, .inr (1, (.negSucc 99), (.negSucc 99)), qgN 1 100 100, .inr (1, (.negSucc 99), (.negSucc 99)), qgN 1 100 100, .inr (1, (.negSucc 99), (.negSucc 99)), qgN 1 100 100, .inr (1, (.negSucc 99), (.negSucc 99)), qgN 1 100 100, qgN 118 0 0], qkC 100 3, qkC 103 4, qkC 100 5, qkC 100 6, qkC 100 7, qjC 1 1000000070, qjC 1 1000000008, qkC 100 8, qkC 100 9, qkC 100 10, qkC 100 11, qkC 100 12, qjC 1 1000000004], []), 0, 0)])
noncomputable def c148_1_e : List Ct := []
noncomputable def c148_1_pts : List PE := []
set_option maxRecDepth 100000 in
theorem c148_1_k : enCtF c148_1 c148_1_e (pkP (c148_1_pts ++ []) []) (none) noH 3000 = true := by decide +kernel
set_option maxRecDepth 100000 in
theorem c148_1_v : ValidC PPk c148_1 := ct_ok fpk noH_ok (d := 0) (ext := []) (pts := c148_1_pts) (env := c148_1_e) rfl (fun _ h => (by cases h)) ext_nil (fun q h => (by cases h)) (enF c148_1_k) (fun _ h => (by cases h))

noncomputable def c148_2 : Ct := (148, 1, (13, [qtA 0, qtA 1, qtA 2], [], [qvR 0, qvK (.ofNat 200), qvK (.ofNat 1), qvK (.ofNat 2), qvS 0, qvS 1, qvS 2], zh63, []),
  [((13, [], [], [qvK (.ofNat 1)], [zc27, qiC 0 [qgN 1 3 3, qgN 0 0 0, .inl ((.ofNat 1), []), qgN 6 0 0, qgN 1 3 3, qgN 1 5 5, qgN 7 0 0, qgN 1 100 100, qgN 2 0 0, .inr (1, (.negSucc 0), (.negSucc 0)), qgN 21 0 0, qgN 1 1 1, qgN 39 0 0, qgN 1 1 1, qgN 39 0 0, qgN 1 1 1, qgN 39 0 0, qgN 1 1 1, qgN 37 0 0, .inl ((.ofNat 2), []), qgN 0 0 0, qgS 0, qgN 0 0 0, qgS 1, qgN 0 0 0, qgS 2, qgN 580 0 0, .inr (1, (.negSucc 99), (.negSucc 99)), qgN 1 100 100, .inr (1, (.negSucc 99), (.negSucc 99)), qgN 1 100 100, .inr (1, (.negSucc 99), (.negSucc 99)), qgN 1 100 100, .inr (1, (.negSucc 99), (.negSucc 99)), qgN 1 100 100, qgN 118 0 0], qkC 100 3, qkC 103 4, qkC 100 5, qkC 100 6, qkC 100 7, qjC 1 1000000070, qjC 1 1000000008, qkC 100 8, qkC 100 9, qkC 100 10, qkC 100 11, qkC 100 12, qjC 1 1000000004], []), 0, 0)])
noncomputable def c148_2_e : List Ct := []
noncomputable def c148_2_pts : List PE := []
set_option maxRecDepth 100000 in
theorem c148_2_k : enCtF c148_2 c148_2_e (pkP (c148_2_pts ++ []) []) (none) noH 3000 = true := by decide +kernel
set_option maxRecDepth 100000 in
theorem c148_2_v : ValidC PPk c148_2 := ct_ok fpk noH_ok (d := 0) (ext := []) (pts := c148_2_pts) (env := c148_2_e) rfl (fun _ h => (by cases h)) ext_nil (fun q h => (by cases h)) (enF c148_2_k) (fun _ h => (by cases h))

noncomputable def c148_3 : Ct := (148, 1, (13, [qtA 0, qtA 1, qtA 2], [], [qvR 0, qvK (.ofNat 200), qvK (.ofNat 1), qvK (.ofNat 3), qvS 0, qvS 1, qvS 2], zh63, []),
  [((13, [], [], [qvK (.ofNat 1)], [zc27, qiC 0 [qgN 1 3 3, qgN 0 0 0, .inl ((.ofNat 1), []), qgN 6 0 0, qgN 1 3 3, qgN 1 5 5, qgN 7 0 0, qgN 1 100 100, qgN 2 0 0, .inr (1, (.negSucc 0), (.negSucc 0)), qgN 21 0 0, qgN 1 1 1, qgN 39 0 0, qgN 1 1 1, qgN 39 0 0, qgN 1 1 1, qgN 39 0 0, qgN 1 1 1, qgN 37 0 0, .inl ((.ofNat 3), []), qgN 0 0 0, qgS 0, qgN 0 0 0, qgS 1, qgN 0 0 0, qgS 2, qgN 580 0 0, .inr (1, (.negSucc 99), (.negSucc 99)), qgN 1 100 100, .inr (1, (.negSucc 99), (.negSucc 99)), qgN 1 100 100, .inr (1, (.negSucc 99), (.negSucc 99)), qgN 1 100 100, .inr (1, (.negSucc 99), (.negSucc 99)), qgN 1 100 100, qgN 118 0 0], qkC 100 3, qkC 103 4, qkC 100 5, qkC 100 6, qkC 100 7, qjC 1 1000000070, qjC 1 1000000008, qkC 100 8, qkC 100 9, qkC 100 10, qkC 100 11, qkC 100 12, qjC 1 1000000004], []), 0, 0)])
noncomputable def c148_3_e : List Ct := []
noncomputable def c148_3_pts : List PE := []
set_option maxRecDepth 100000 in
theorem c148_3_k : enCtF c148_3 c148_3_e (pkP (c148_3_pts ++ []) []) (none) noH 3000 = true := by decide +kernel
set_option maxRecDepth 100000 in
theorem c148_3_v : ValidC PPk c148_3 := ct_ok fpk noH_ok (d := 0) (ext := []) (pts := c148_3_pts) (env := c148_3_e) rfl (fun _ h => (by cases h)) ext_nil (fun q h => (by cases h)) (enF c148_3_k) (fun _ h => (by cases h))

noncomputable def c148_4 : Ct := (148, 1, (13, [qtA 0, qtA 1, qtA 2], [], [qvR 0, qvK (.ofNat 200), qvK (.ofNat 1), qvK (.ofNat 4), qvS 0, qvS 1, qvS 2], zh63, []),
  [((13, [], [], [qvK (.ofNat 1)], [zc27, qiC 0 [qgN 1 3 3, qgN 0 0 0, .inl ((.ofNat 1), []), qgN 6 0 0, qgN 1 3 3, qgN 1 5 5, qgN 7 0 0, qgN 1 100 100, qgN 2 0 0, .inr (1, (.negSucc 0), (.negSucc 0)), qgN 21 0 0, qgN 1 1 1, qgN 39 0 0, qgN 1 1 1, qgN 39 0 0, qgN 1 1 1, qgN 39 0 0, qgN 1 1 1, qgN 37 0 0, .inl ((.ofNat 4), []), qgN 0 0 0, qgS 0, qgN 0 0 0, qgS 1, qgN 0 0 0, qgS 2, qgN 580 0 0, .inr (1, (.negSucc 99), (.negSucc 99)), qgN 1 100 100, .inr (1, (.negSucc 99), (.negSucc 99)), qgN 1 100 100, .inr (1, (.negSucc 99), (.negSucc 99)), qgN 1 100 100, .inr (1, (.negSucc 99), (.negSucc 99)), qgN 1 100 100, qgN 118 0 0], qkC 100 3, qkC 103 4, qkC 100 5, qkC 100 6, qkC 100 7, qjC 1 1000000070, qjC 1 1000000008, qkC 100 8, qkC 100 9, qkC 100 10, qkC 100 11, qkC 100 12, qjC 1 1000000004], []), 0, 0)])
noncomputable def c148_4_e : List Ct := []
noncomputable def c148_4_pts : List PE := []
set_option maxRecDepth 100000 in
theorem c148_4_k : enCtF c148_4 c148_4_e (pkP (c148_4_pts ++ []) []) (none) noH 3000 = true := by decide +kernel
set_option maxRecDepth 100000 in
theorem c148_4_v : ValidC PPk c148_4 := ct_ok fpk noH_ok (d := 0) (ext := []) (pts := c148_4_pts) (env := c148_4_e) rfl (fun _ h => (by cases h)) ext_nil (fun q h => (by cases h)) (enF c148_4_k) (fun _ h => (by cases h))

noncomputable def c148_5 : Ct := (148, 1, (13, [qtA 0, qtA 1, qtA 2], [], [qvR 0, qvK (.ofNat 200), qvK (.ofNat 1), qvK (.ofNat 5), qvS 0, qvS 1, qvS 2], zh63, []),
  [((13, [], [], [qvK (.ofNat 1)], [zc27, qiC 0 [qgN 1 3 3, qgN 0 0 0, .inl ((.ofNat 1), []), qgN 6 0 0, qgN 1 3 3, qgN 1 5 5, qgN 7 0 0, qgN 1 100 100, qgN 2 0 0, .inr (1, (.negSucc 0), (.negSucc 0)), qgN 21 0 0, qgN 1 1 1, qgN 39 0 0, qgN 1 1 1, qgN 39 0 0, qgN 1 1 1, qgN 39 0 0, qgN 1 1 1, qgN 37 0 0, .inl ((.ofNat 5), []), qgN 0 0 0, qgS 0, qgN 0 0 0, qgS 1, qgN 0 0 0, qgS 2, qgN 580 0 0, .inr (1, (.negSucc 99), (.negSucc 99)), qgN 1 100 100, .inr (1, (.negSucc 99), (.negSucc 99)), qgN 1 100 100, .inr (1, (.negSucc 99), (.negSucc 99)), qgN 1 100 100, .inr (1, (.negSucc 99), (.negSucc 99)), qgN 1 100 100, qgN 118 0 0], qkC 100 3, qkC 103 4, qkC 100 5, qkC 100 6, qkC 100 7, qjC 1 1000000070, qjC 1 1000000008, qkC 100 8, qkC 100 9, qkC 100 10, qkC 100 11, qkC 100 12, qjC 1 1000000004], []), 0, 0)])
noncomputable def c148_5_e : List Ct := []
noncomputable def c148_5_pts : List PE := []
set_option maxRecDepth 100000 in
theorem c148_5_k : enCtF c148_5 c148_5_e (pkP (c148_5_pts ++ []) []) (none) noH 3000 = true := by decide +kernel
set_option maxRecDepth 100000 in
theorem c148_5_v : ValidC PPk c148_5 := ct_ok fpk noH_ok (d := 0) (ext := []) (pts := c148_5_pts) (env := c148_5_e) rfl (fun _ h => (by cases h)) ext_nil (fun q h => (by cases h)) (enF c148_5_k) (fun _ h => (by cases h))

noncomputable def c148_6 : Ct := (148, 1, (13, [qtA 0, qtA 1, qtA 2], [], [qvR 0, qvK (.ofNat 200), qvK (.ofNat 1), qvK (.ofNat 6), qvS 0, qvS 1, qvS 2], zh63, []),
  [((13, [], [], [qvK (.ofNat 1)], [zc27, qiC 0 [qgN 1 3 3, qgN 0 0 0, .inl ((.ofNat 1), []), qgN 6 0 0, qgN 1 3 3, qgN 1 5 5, qgN 7 0 0, qgN 1 100 100, qgN 2 0 0, .inr (1, (.negSucc 0), (.negSucc 0)), qgN 21 0 0, qgN 1 1 1, qgN 39 0 0, qgN 1 1 1, qgN 39 0 0, qgN 1 1 1, qgN 39 0 0, qgN 1 1 1, qgN 37 0 0, .inl ((.ofNat 6), []), qgN 0 0 0, qgS 0, qgN 0 0 0, qgS 1, qgN 0 0 0, qgS 2, qgN 580 0 0, .inr (1, (.negSucc 99), (.negSucc 99)), qgN 1 100 100, .inr (1, (.negSucc 99), (.negSucc 99)), qgN 1 100 100, .inr (1, (.negSucc 99), (.negSucc 99)), qgN 1 100 100, .inr (1, (.negSucc 99), (.negSucc 99)), qgN 1 100 100, qgN 118 0 0], qkC 100 3, qkC 103 4, qkC 100 5, qkC 100 6, qkC 100 7, qjC 1 1000000070, qjC 1 1000000008, qkC 100 8, qkC 100 9, qkC 100 10, qkC 100 11, qkC 100 12, qjC 1 1000000004], []), 0, 0)])
noncomputable def c148_6_e : List Ct := []
noncomputable def c148_6_pts : List PE := []
set_option maxRecDepth 100000 in
theorem c148_6_k : enCtF c148_6 c148_6_e (pkP (c148_6_pts ++ []) []) (none) noH 3000 = true := by decide +kernel
set_option maxRecDepth 100000 in
theorem c148_6_v : ValidC PPk c148_6 := ct_ok fpk noH_ok (d := 0) (ext := []) (pts := c148_6_pts) (env := c148_6_e) rfl (fun _ h => (by cases h)) ext_nil (fun q h => (by cases h)) (enF c148_6_k) (fun _ h => (by cases h))

noncomputable def c148_7 : Ct := (148, 1, (13, [qtA 0, qtA 1, qtA 2], [], [qvR 0, qvK (.ofNat 200), qvK (.ofNat 1), qvK (.ofNat 7), qvS 0, qvS 1, qvS 2], zh63, []),
  [((13, [], [], [qvK (.ofNat 1)], [zc27, qiC 0 [qgN 1 3 3, qgN 0 0 0, .inl ((.ofNat 1), []), qgN 6 0 0, qgN 1 3 3, qgN 1 5 5, qgN 7 0 0, qgN 1 100 100, qgN 2 0 0, .inr (1, (.negSucc 0), (.negSucc 0)), qgN 21 0 0, qgN 1 1 1, qgN 39 0 0, qgN 1 1 1, qgN 39 0 0, qgN 1 1 1, qgN 39 0 0, qgN 1 1 1, qgN 37 0 0, .inl ((.ofNat 7), []), qgN 0 0 0, qgS 0, qgN 0 0 0, qgS 1, qgN 0 0 0, qgS 2, qgN 580 0 0, .inr (1, (.negSucc 99), (.negSucc 99)), qgN 1 100 100, .inr (1, (.negSucc 99), (.negSucc 99)), qgN 1 100 100, .inr (1, (.negSucc 99), (.negSucc 99)), qgN 1 100 100, .inr (1, (.negSucc 99), (.negSucc 99)), qgN 1 100 100, qgN 118 0 0], qkC 100 3, qkC 103 4, qkC 100 5, qkC 100 6, qkC 100 7, qjC 1 1000000070, qjC 1 1000000008, qkC 100 8, qkC 100 9, qkC 100 10, qkC 100 11, qkC 100 12, qjC 1 1000000004], []), 0, 0)])
noncomputable def c148_7_e : List Ct := []
noncomputable def c148_7_pts : List PE := []
set_option maxRecDepth 100000 in
theorem c148_7_k : enCtF c148_7 c148_7_e (pkP (c148_7_pts ++ []) []) (none) noH 3000 = true := by decide +kernel
set_option maxRecDepth 100000 in
theorem c148_7_v : ValidC PPk c148_7 := ct_ok fpk noH_ok (d := 0) (ext := []) (pts := c148_7_pts) (env := c148_7_e) rfl (fun _ h => (by cases h)) ext_nil (fun q h => (by cases h)) (enF c148_7_k) (fun _ h => (by cases h))

noncomputable def c148_8 : Ct := (148, 1, (13, [qtA 0, qtA 1, qtA 2], [], [qvR 0, qvK (.ofNat 200), qvK (.ofNat 1), qvK (.ofNat 8), qvS 0, qvS 1, qvS 2], zh63, []),
  [((13, [], [], [qvK (.ofNat 1)], [zc27, qiC 0 [qgN 1 3 3, qgN 0 0 0, .inl ((.ofNat 1), []), qgN 6 0 0, qgN 1 3 3, qgN 1 5 5, qgN 7 0 0, qgN 1 100 100, qgN 2 0 0, .inr (1, (.negSucc 0), (.negSucc 0)), qgN 21 0 0, qgN 1 1 1, qgN 39 0 0, qgN 1 1 1, qgN 39 0 0, qgN 1 1 1, qgN 39 0 0, qgN 1 1 1, qgN 37 0 0, .inl ((.ofNat 8), []), qgN 0 0 0, qgS 0, qgN 0 0 0, qgS 1, qgN 0 0 0, qgS 2, qgN 580 0 0, .inr (1, (.negSucc 99), (.negSucc 99)), qgN 1 100 100, .inr (1, (.negSucc 99), (.negSucc 99)), qgN 1 100 100, .inr (1, (.negSucc 99), (.negSucc 99)), qgN 1 100 100, .inr (1, (.negSucc 99), (.negSucc 99)), qgN 1 100 100, qgN 118 0 0], qkC 100 3, qkC 103 4, qkC 100 5, qkC 100 6, qkC 100 7, qjC 1 1000000070, qjC 1 1000000008, qkC 100 8, qkC 100 9, qkC 100 10, qkC 100 11, qkC 100 12, qjC 1 1000000004], []), 0, 0)])
noncomputable def c148_8_e : List Ct := []
noncomputable def c148_8_pts : List PE := []
set_option maxRecDepth 100000 in
theorem c148_8_k : enCtF c148_8 c148_8_e (pkP (c148_8_pts ++ []) []) (none) noH 3000 = true := by decide +kernel
set_option maxRecDepth 100000 in
theorem c148_8_v : ValidC PPk c148_8 := ct_ok fpk noH_ok (d := 0) (ext := []) (pts := c148_8_pts) (env := c148_8_e) rfl (fun _ h => (by cases h)) ext_nil (fun q h => (by cases h)) (enF c148_8_k) (fun _ h => (by cases h))

noncomputable def c148_9 : Ct := (148, 1, (13, [qtA 0, qtA 1, qtA 2], [], [qvR 0, qvK (.ofNat 200), qvK (.ofNat 1), qvK (.ofNat 9), qvS 0, qvS 1, qvS 2], zh63, []),
  [((13, [], [], [qvK (.ofNat 1)], [zc27, qiC 0 [qgN 1 3 3, qgN 0 0 0, .inl ((.ofNat 1), []), qgN 6 0 0, qgN 1 3 3, qgN 1 5 5, qgN 7 0 0, qgN 1 100 100, qgN 2 0 0, .inr (1, (.negSucc 0), (.negSucc 0)), qgN 21 0 0, qgN 1 1 1, qgN 39 0 0, qgN 1 1 1, qgN 39 0 0, qgN 1 1 1, qgN 39 0 0, qgN 1 1 1, qgN 37 0 0, .inl ((.ofNat 9), []), qgN 0 0 0, qgS 0, qgN 0 0 0, qgS 1, qgN 0 0 0, qgS 2, qgN 580 0 0, .inr (1, (.negSucc 99), (.negSucc 99)), qgN 1 100 100, .inr (1, (.negSucc 99), (.negSucc 99)), qgN 1 100 100, .inr (1, (.negSucc 99), (.negSucc 99)), qgN 1 100 100, .inr (1, (.negSucc 99), (.negSucc 99)), qgN 1 100 100, qgN 118 0 0], qkC 100 3, qkC 103 4, qkC 100 5, qkC 100 6, qkC 100 7, qjC 1 1000000070, qjC 1 1000000008, qkC 100 8, qkC 100 9, qkC 100 10, qkC 100 11, qkC 100 12, qjC 1 1000000004], []), 0, 0)])
noncomputable def c148_9_e : List Ct := []
noncomputable def c148_9_pts : List PE := []
set_option maxRecDepth 100000 in
theorem c148_9_k : enCtF c148_9 c148_9_e (pkP (c148_9_pts ++ []) []) (none) noH 3000 = true := by decide +kernel
set_option maxRecDepth 100000 in
theorem c148_9_v : ValidC PPk c148_9 := ct_ok fpk noH_ok (d := 0) (ext := []) (pts := c148_9_pts) (env := c148_9_e) rfl (fun _ h => (by cases h)) ext_nil (fun q h => (by cases h)) (enF c148_9_k) (fun _ h => (by cases h))

noncomputable def c148_10 : Ct := (148, 1, (13, [qtA 0, qtA 1, qtA 2], [], [qvR 0, qvK (.ofNat 200), qvK (.ofNat 1), qvK (.ofNat 10), qvS 0, qvS 1, qvS 2], zh63, []),
  [((13, [], [], [qvK (.ofNat 1)], [zc27, qiC 0 [qgN 1 3 3, qgN 0 0 0, .inl ((.ofNat 1), []), qgN 6 0 0, qgN 1 3 3, qgN 1 5 5, qgN 7 0 0, qgN 1 100 100, qgN 2 0 0, .inr (1, (.negSucc 0), (.negSucc 0)), qgN 21 0 0, qgN 1 1 1, qgN 39 0 0, qgN 1 1 1, qgN 39 0 0, qgN 1 1 1, qgN 39 0 0, qgN 1 1 1, qgN 37 0 0, .inl ((.ofNat 10), []), qgN 0 0 0, qgS 0, qgN 0 0 0, qgS 1, qgN 0 0 0, qgS 2, qgN 580 0 0, .inr (1, (.negSucc 99), (.negSucc 99)), qgN 1 100 100, .inr (1, (.negSucc 99), (.negSucc 99)), qgN 1 100 100, .inr (1, (.negSucc 99), (.negSucc 99)), qgN 1 100 100, .inr (1, (.negSucc 99), (.negSucc 99)), qgN 1 100 100, qgN 118 0 0], qkC 100 3, qkC 103 4, qkC 100 5, qkC 100 6, qkC 100 7, qjC 1 1000000070, qjC 1 1000000008, qkC 100 8, qkC 100 9, qkC 100 10, qkC 100 11, qkC 100 12, qjC 1 1000000004], []), 0, 0)])
noncomputable def c148_10_e : List Ct := []
noncomputable def c148_10_pts : List PE := []
set_option maxRecDepth 100000 in
theorem c148_10_k : enCtF c148_10 c148_10_e (pkP (c148_10_pts ++ []) []) (none) noH 3000 = true := by decide +kernel
set_option maxRecDepth 100000 in
theorem c148_10_v : ValidC PPk c148_10 := ct_ok fpk noH_ok (d := 0) (ext := []) (pts := c148_10_pts) (env := c148_10_e) rfl (fun _ h => (by cases h)) ext_nil (fun q h => (by cases h)) (enF c148_10_k) (fun _ h => (by cases h))

noncomputable def c146_0 : Ct := (146, 3, (4, [qtA 0, qtA 1, qtA 2, qtA 3], [], [qvR 0, qvS 0, qvS 1, qvS 2, qvS 3], zh29, []),
  [((4, [(0, (.negSucc 2147483647), (.negSucc 0))], [], [qvK (.negSucc 1)], zh29, []), 0, 0),
   ((4, [qtN 0 11 2147483647], [], [qvK (.negSucc 1)], zh29, []), 0, 0),
   ((4, [qtN 0 0 10, (1, (.negSucc 2147483647), (.negSucc 0))], [], [qvK (.negSucc 1)], zh29, []), 0, 0),
   ((4, [qtN 0 0 10, qtN 1 12 2147483647], [], [qvK (.negSucc 1)], zh29, []), 0, 0),
   ((4, [qtN 0 0 0, qtN 1 0 11], [], [qvK (.ofNat 0)], [zc27, qiC 0 [qgN 1 3 3, qgN 0 0 0, .inl ((.ofNat 1), []), qgN 6 0 0, qgN 1 3 3, qgN 1 5 5, qgN 7 0 0, qgN 1 100 100, qgN 2 0 0, .inr (1, (.negSucc 0), (.negSucc 0)), qgN 21 0 0, qgN 1 1 1, qgN 39 0 0, qgN 1 1 1, qgN 39 0 0, qgN 1 1 1, qgN 39 0 0, qgN 1 1 1, qgN 38 0 0, qgS 1, qgN 0 0 0, qgS 2, qgN 0 0 0, qgS 3, qgN 580 0 0, .inr (1, (.negSucc 99), (.negSucc 99)), qgN 1 100 100, .inr (1, (.negSucc 99), (.negSucc 99)), qgN 1 100 100, .inr (1, (.negSucc 99), (.negSucc 99)), qgN 1 100 100, .inr (1, (.negSucc 99), (.negSucc 99)), qgN 1 100 100, qgN 118 0 0], qiC 0 [qgN 1820 0 0], qiC 3 [qgN 2 0 0], qiC 0 [qgN 70 0 0], qiC 0 [qgN 70 0 0], qiC 0 [qgN 70 0 0], qjC 1 1000000070, qjC 1 1000000008, qiC 0 [qgN 910 0 0], qiC 0 [qgN 910 0 0], qiC 0 [qgN 20 0 0], qiC 0 [qgN 20 0 0], qiC 0 [qgN 910 0 0], qjC 1 1000000004], []), 0, 0),
   ((4, [qtN 0 1 1, qtN 1 0 11, (2, (.negSucc 2147483647), (.negSucc 0))], [], [qvK (.negSucc 1)], zh29, []), 0, 0),
   ((4, [qtN 0 1 1, qtN 1 0 11, qtN 2 12 2147483647], [], [qvK (.negSucc 1)], zh29, []), 0, 0),
   ((4, [qtN 0 1 1, qtN 1 0 11, qtN 2 0 11, (3, (.negSucc 2147483647), (.negSucc 0))], [], [qvK (.negSucc 1)], zh29, []), 0, 0),
   ((4, [qtN 0 1 1, qtN 1 0 11, qtN 2 0 11, qtN 3 12 2147483647], [], [qvK (.negSucc 1)], zh29, []), 0, 0),
   ((4, [qtN 0 1 1, qtN 1 0 11, qtN 2 0 11, qtN 3 0 11], [], [qvK (.ofNat 0)], [zc27, qiC 0 [qgN 1 3 3, qgN 0 0 0, .inl ((.ofNat 1), []), qgN 6 0 0, qgN 1 3 3, qgN 1 5 5, qgN 7 0 0, qgN 1 100 100, qgN 2 0 0, .inr (1, (.negSucc 0), (.negSucc 0)), qgN 21 0 0, qgN 1 1 1, qgN 39 0 0, qgN 1 1 1, qgN 39 0 0, qgN 1 1 1, qgN 39 0 0, qgN 1 1 1, qgN 37 0 0, .inl ((.ofNat 1), []), qgN 0 0 0, qgS 1, qgN 0 0 0, qgS 2, qgN 0 0 0, qgS 3, qgN 580 0 0, .inr (1, (.negSucc 99), (.negSucc 99)), qgN 1 100 100, .inr (1, (.negSucc 99), (.negSucc 99)), qgN 1 100 100, .inr (1, (.negSucc 99), (.negSucc 99)), qgN 1 100 100, .inr (1, (.negSucc 99), (.negSucc 99)), qgN 1 100 100, qgN 118 0 0], qiC 0 [qgN 1820 0 0], qiC 3 [qgN 2 0 0], qiC 0 [qgN 70 0 0], qiC 0 [qgN 70 0 0], qiC 0 [qgN 70 0 0], qjC 1 1000000070, qjC 1 1000000008, qiC 0 [qgN 910 0 0], qiC 0 [qgN 910 0 0], qiC 0 [qgN 20 0 0], qiC 0 [qgN 20 0 0], qiC 0 [qgN 910 0 0], qjC 1 1000000004], []), 0, 0),
   ((4, [qtN 0 2 2, qtN 1 0 11, (2, (.negSucc 2147483647), (.negSucc 0))], [], [qvK (.negSucc 1)], zh29, []), 0, 0),
   ((4, [qtN 0 2 2, qtN 1 0 11, qtN 2 12 2147483647], [], [qvK (.negSucc 1)], zh29, []), 0, 0),
   ((4, [qtN 0 2 2, qtN 1 0 11, qtN 2 0 11, (3, (.negSucc 2147483647), (.negSucc 0))], [], [qvK (.negSucc 1)], zh29, []), 0, 0),
   ((4, [qtN 0 2 2, qtN 1 0 11, qtN 2 0 11, qtN 3 12 2147483647], [], [qvK (.negSucc 1)], zh29, []), 0, 0),
   ((4, [qtN 0 2 2, qtN 1 0 11, qtN 2 0 11, qtN 3 0 11], [], [qvK (.ofNat 0)], [zc27, qiC 0 [qgN 1 3 3, qgN 0 0 0, .inl ((.ofNat 1), []), qgN 6 0 0, qgN 1 3 3, qgN 1 5 5, qgN 7 0 0, qgN 1 100 100, qgN 2 0 0, .inr (1, (.negSucc 0), (.negSucc 0)), qgN 21 0 0, qgN 1 1 1, qgN 39 0 0, qgN 1 1 1, qgN 39 0 0, qgN 1 1 1, qgN 39 0 0, qgN 1 1 1, qgN 37 0 0, .inl ((.ofNat 2), []), qgN 0 0 0, qgS 1, qgN 0 0 0, qgS 2, qgN 0 0 0, qgS 3, qgN 580 0 0, .inr (1, (.negSucc 99), (.negSucc 99)), qgN 1 100 100, .inr (1, (.negSucc 99), (.negSucc 99)), qgN 1 100 100, .inr (1, (.negSucc 99), (.negSucc 99)), qgN 1 100 100, .inr (1, (.negSucc 99), (.negSucc 99)), qgN 1 100 100, qgN 118 0 0], qiC 0 [qgN 1820 0 0], qiC 3 [qgN 2 0 0], qiC 0 [qgN 70 0 0], qiC 0 [qgN 70 0 0], qiC 0 [qgN 70 0 0], qjC 1 1000000070, qjC 1 1000000008, qiC 0 [qgN 910 0 0], qiC 0 [qgN 910 0 0], qiC 0 [qgN 20 0 0], qiC 0 [qgN 20 0 0], qiC 0 [qgN 910 0 0], qjC 1 1000000004], []), 0, 0),
   ((4, [qtN 0 3 3, qtN 1 0 11, (2, (.negSucc 2147483647), (.negSucc 0))], [], [qvK (.negSucc 1)], zh29, []), 0, 0),
   ((4, [qtN 0 3 3, qtN 1 0 11, qtN 2 12 2147483647], [], [qvK (.negSucc 1)], zh29, []), 0, 0),
   ((4, [qtN 0 3 3, qtN 1 0 11, qtN 2 0 11, (3, (.negSucc 2147483647), (.negSucc 0))], [], [qvK (.negSucc 1)], zh29, []), 0, 0),
   ((4, [qtN 0 3 3, qtN 1 0 11, qtN 2 0 11, qtN 3 12 2147483647], [], [qvK (.negSucc 1)], zh29, []), 0, 0),
   ((4, [qtN 0 3 3, qtN 1 0 11, qtN 2 0 11, qtN 3 0 11], [], [qvK (.ofNat 0)], [zc27, qiC 0 [qgN 1 3 3, qgN 0 0 0, .inl ((.ofNat 1), []), qgN 6 0 0, qgN 1 3 3, qgN 1 5 5, qgN 7 0 0, qgN 1 100 100, qgN 2 0 0, .inr (1, (.negSucc 0), (.negSucc 0)), qgN 21 0 0, qgN 1 1 1, qgN 39 0 0, qgN 1 1 1, qgN 39 0 0, qgN 1 1 1, qgN 39 0 0, qgN 1 1 1, qgN 37 0 0, .inl ((.ofNat 3), []), qgN 0 0 0, qgS 1, qgN 0 0 0, qgS 2, qgN 0 0 0, qgS 3, qgN 580 0 0, .inr (1, (.negSucc 99), (.negSucc 99)), qgN 1 100 100, .inr (1, (.negSucc 99), (.negSucc 99)), qgN 1 100 100, .inr (1, (.negSucc 99), (.negSucc 99)), qgN 1 100 100, .inr (1, (.negSucc 99), (.negSucc 99)), qgN 1 100 100, qgN 118 0 0], qiC 0 [qgN 1820 0 0], qiC 3 [qgN 2 0 0], qiC 0 [qgN 70 0 0], qiC 0 [qgN 70 0 0], qiC 0 [qgN 70 0 0], qjC 1 1000000070, qjC 1 1000000008, qiC 0 [qgN 910 0 0], qiC 0 [qgN 910 0 0], qiC 0 [qgN 20 0 0], qiC 0 [qgN 20 0 0], qiC 0 [qgN 910 0 0], qjC 1 1000000004], []), 0, 0),
   ((4, [qtN 0 4 4, qtN 1 0 11, (2, (.negSucc 2147483647), (.negSucc 0))], [], [qvK (.negSucc 1)], zh29, []), 0, 0),
   ((4, [qtN 0 4 4, qtN 1 0 11, qtN 2 12 2147483647], [], [qvK (.negSucc 1)], zh29, []), 0, 0),
   ((4, [qtN 0 4 4, qtN 1 0 11, qtN 2 0 11, (3, (.negSucc 2147483647), (.negSucc 0))], [], [qvK (.negSucc 1)], zh29, []), 0, 0),
   ((4, [qtN 0 4 4, qtN 1 0 11, qtN 2 0 11, qtN 3 12 2147483647], [], [qvK (.negSucc 1)], zh29, []), 0, 0),
   ((4, [qtN 0 4 4, qtN 1 0 11, qtN 2 0 11, qtN 3 0 11], [], [qvK (.ofNat 0)], [zc27, qiC 0 [qgN 1 3 3, qgN 0 0 0, .inl ((.ofNat 1), []), qgN 6 0 0, qgN 1 3 3, qgN 1 5 5, qgN 7 0 0, qgN 1 100 100, qgN 2 0 0, .inr (1, (.negSucc 0), (.negSucc 0)), qgN 21 0 0, qgN 1 1 1, qgN 39 0 0, qgN 1 1 1, qgN 39 0 0, qgN 1 1 1, qgN 39 0 0, qgN 1 1 1, qgN 37 0 0, .inl ((.ofNat 4), []), qgN 0 0 0, qgS 1, qgN 0 0 0, qgS 2, qgN 0 0 0, qgS 3, qgN 580 0 0, .inr (1, (.negSucc 99), (.negSucc 99)), qgN 1 100 100, .inr (1, (.negSucc 99), (.negSucc 99)), qgN 1 100 100, .inr (1, (.negSucc 99), (.negSucc 99)), qgN 1 100 100, .inr (1, (.negSucc 99), (.negSucc 99)), qgN 1 100 100, qgN 118 0 0], qiC 0 [qgN 1820 0 0], qiC 3 [qgN 2 0 0], qiC 0 [qgN 70 0 0], qiC 0 [qgN 70 0 0], qiC 0 [qgN 70 0 0], qjC 1 1000000070, qjC 1 1000000008, qiC 0 [qgN 910 0 0], qiC 0 [qgN 910 0 0], qiC 0 [qgN 20 0 0], qiC 0 [qgN 20 0 0], qiC 0 [qgN 910 0 0], qjC 1 1000000004], []), 0, 0),
   ((4, [qtN 0 5 5, qtN 1 0 11, (2, (.negSucc 2147483647), (.negSucc 0))], [], [qvK (.negSucc 1)], zh29, []), 0, 0),
   ((4, [qtN 0 5 5, qtN 1 0 11, qtN 2 12 2147483647], [], [qvK (.negSucc 1)], zh29, []), 0, 0),
   ((4, [qtN 0 5 5, qtN 1 0 11, qtN 2 0 11, (3, (.negSucc 2147483647), (.negSucc 0))], [], [qvK (.negSucc 1)], zh29, []), 0, 0),
   ((4, [qtN 0 5 5, qtN 1 0 11, qtN 2 0 11, qtN 3 12 2147483647], [], [qvK (.negSucc 1)], zh29, []), 0, 0),
   ((4, [qtN 0 5 5, qtN 1 0 11, qtN 2 0 11, qtN 3 0 11], [], [qvK (.ofNat 0)], [zc27, qiC 0 [qgN 1 3 3, qgN 0 0 0, .inl ((.ofNat 1), []), qgN 6 0 0, qgN 1 3 3, qgN 1 5 5, qgN 7 0 0, qgN 1 100 100, qgN 2 0 0, .inr (1, (.negSucc 0), (.negSucc 0)), qgN 21 0 0, qgN 1 1 1, qgN 39 0 0, qgN 1 1 1, qgN 39 0 0, qgN 1 1 1, qgN 39 0 0, qgN 1 1 1, qgN 37 0 0, .inl ((.ofNat 5), []), qgN 0 0 0, qgS 1, qgN 0 0 0, qgS 2, qgN 0 0 0, qgS 3, qgN 580 0 0, .inr (1, (.negSucc 99), (.negSucc 99)), qgN 1 100 100, .inr (1, (.negSucc 99), (.negSucc 99)), qgN 1 100 100, .inr (1, (.negSucc 99), (.negSucc 99)), qgN 1 100 100, .inr (1, (.negSucc 99), (.negSucc 99)), qgN 1 100 100, qgN 118 0 0], qiC 0 [qgN 1820 0 0], qiC 3 [qgN 2 0 0], qiC 0 [qgN 70 0 0], qiC 0 [qgN 70 0 0], qiC 0 [qgN 70 0 0], qjC 1 1000000070, qjC 1 1000000008, qiC 0 [qgN 910 0 0], qiC 0 [qgN 910 0 0], qiC 0 [qgN 20 0 0], qiC 0 [qgN 20 0 0], qiC 0 [qgN 910 0 0], qjC 1 1000000004], []), 0, 0),
   ((4, [qtN 0 6 6, qtN 1 0 11, (2, (.negSucc 2147483647), (.negSucc 0))], [], [qvK (.negSucc 1)], zh29, []), 0, 0),
   ((4, [qtN 0 6 6, qtN 1 0 11, qtN 2 12 2147483647], [], [qvK (.negSucc 1)], zh29, []), 0, 0),
   ((4, [qtN 0 6 6, qtN 1 0 11, qtN 2 0 11, (3, (.negSucc 2147483647), (.negSucc 0))], [], [qvK (.negSucc 1)], zh29, []), 0, 0),
   ((4, [qtN 0 6 6, qtN 1 0 11, qtN 2 0 11, qtN 3 12 2147483647], [], [qvK (.negSucc 1)], zh29, []), 0, 0),
   ((4, [qtN 0 6 6, qtN 1 0 11, qtN 2 0 11, qtN 3 0 11], [], [qvK (.ofNat 0)], [zc27, qiC 0 [qgN 1 3 3, qgN 0 0 0, .inl ((.ofNat 1), []), qgN 6 0 0, qgN 1 3 3, qgN 1 5 5, qgN 7 0 0, qgN 1 100 100, qgN 2 0 0, .inr (1, (.negSucc 0), (.negSucc 0)), qgN 21 0 0, qgN 1 1 1, qgN 39 0 0, qgN 1 1 1, qgN 39 0 0, qgN 1 1 1, qgN 39 0 0, qgN 1 1 1, qgN 37 0 0, .inl ((.ofNat 6), []), qgN 0 0 0, qgS 1, qgN 0 0 0, qgS 2, qgN 0 0 0, qgS 3, qgN 580 0 0, .inr (1, (.negSucc 99), (.negSucc 99)), qgN 1 100 100, .inr (1, (.negSucc 99), (.negSucc 99)), qgN 1 100 100, .inr (1, (.negSucc 99), (.negSucc 99)), qgN 1 100 100, .inr (1, (.negSucc 99), (.negSucc 99)), qgN 1 100 100, qgN 118 0 0], qiC 0 [qgN 1820 0 0], qiC 3 [qgN 2 0 0], qiC 0 [qgN 70 0 0], qiC 0 [qgN 70 0 0], qiC 0 [qgN 70 0 0], qjC 1 1000000070, qjC 1 1000000008, qiC 0 [qgN 910 0 0], qiC 0 [qgN 910 0 0], qiC 0 [qgN 20 0 0], qiC 0 [qgN 20 0 0], qiC 0 [qgN 910 0 0], qjC 1 1000000004], []), 0, 0),
   ((4, [qtN 0 7 7, qtN 1 0 11, (2, (.negSucc 2147483647), (.ofNat 0))], [], [qvK (.negSucc 1)], zh29, []), 0, 0),
   ((4, [qtN 0 7 7, qtN 1 0 11, qtN 2 21 2147483647], [], [qvK (.negSucc 1)], zh29, []), 0, 0),
   ((4, [qtN 0 7 7, qtN 1 0 11, qtN 2 1 20], [], [qvK (.ofNat 0)], [zc27, qiC 0 [qgN 1 3 3, qgN 0 0 0, .inl ((.ofNat 1), []), qgN 6 0 0, qgN 1 3 3, qgN 1 5 5, qgN 7 0 0, qgN 1 100 100, qgN 2 0 0, .inr (1, (.negSucc 0), (.negSucc 0)), qgN 21 0 0, qgN 1 1 1, qgN 39 0 0, qgN 1 1 1, qgN 39 0 0, qgN 1 1 1, qgN 39 0 0, qgN 1 1 1, qgN 37 0 0, .inl ((.ofNat 7), []), qgN 0 0 0, qgS 1, qgN 0 0 0, qgS 2, qgN 0 0 0, qgS 3, qgN 580 0 0, .inr (1, (.negSucc 99), (.negSucc 99)), qgN 1 100 100, .inr (1, (.negSucc 99), (.negSucc 99)), qgN 1 100 100, .inr (1, (.negSucc 99), (.negSucc 99)), qgN 1 100 100, .inr (1, (.negSucc 99), (.negSucc 99)), qgN 1 100 100, qgN 118 0 0], qiC 0 [qgN 1820 0 0], qiC 3 [qgN 2 0 0], qiC 0 [qgN 70 0 0], qiC 0 [qgN 70 0 0], qiC 0 [qgN 70 0 0], qjC 1 1000000070, qjC 1 1000000008, qiC 0 [qgN 910 0 0], qiC 0 [qgN 910 0 0], qiC 0 [qgN 20 0 0], qiC 0 [qgN 20 0 0], qiC 0 [qgN 910 0 0], qjC 1 1000000004], []), 0, 0),
   ((4, [qtN 0 8 8, qtN 1 0 11, (2, (.negSucc 2147483647), (.negSucc 0))], [], [qvK (.negSucc 1)], zh29, []), 0, 0),
   ((4, [qtN 0 8 8, qtN 1 0 11, qtN 2 2 2147483647], [], [qvK (.negSucc 1)], zh29, []), 0, 0),
   ((4, [qtN 0 8 8, qtN 1 0 11, qtN 2 0 1], [], [qvK (.ofNat 0)], [zc27, qiC 0 [qgN 1 3 3, qgN 0 0 0, .inl ((.ofNat 1), []), qgN 6 0 0, qgN 1 3 3, qgN 1 5 5, qgN 7 0 0, qgN 1 100 100, qgN 2 0 0, .inr (1, (.negSucc 0), (.negSucc 0)), qgN 21 0 0, qgN 1 1 1, qgN 39 0 0, qgN 1 1 1, qgN 39 0 0, qgN 1 1 1, qgN 39 0 0, qgN 1 1 1, qgN 37 0 0, .inl ((.ofNat 8), []), qgN 0 0 0, qgS 1, qgN 0 0 0, qgS 2, qgN 0 0 0, qgS 3, qgN 580 0 0, .inr (1, (.negSucc 99), (.negSucc 99)), qgN 1 100 100, .inr (1, (.negSucc 99), (.negSucc 99)), qgN 1 100 100, .inr (1, (.negSucc 99), (.negSucc 99)), qgN 1 100 100, .inr (1, (.negSucc 99), (.negSucc 99)), qgN 1 100 100, qgN 118 0 0], qiC 0 [qgN 1820 0 0], qiC 3 [qgN 2 0 0], qiC 0 [qgN 70 0 0], qiC 0 [qgN 70 0 0], qiC 0 [qgN 70 0 0], qjC 1 1000000070, qjC 1 1000000008, qiC 0 [qgN 910 0 0], qiC 0 [qgN 910 0 0], qiC 0 [qgN 20 0 0], qiC 0 [qgN 20 0 0], qiC 0 [qgN 910 0 0], qjC 1 1000000004], []), 0, 0),
   ((4, [qtN 0 9 9, qtN 1 0 11, (2, (.negSucc 2147483647), (.negSucc 0))], [], [qvK (.negSucc 1)], zh29, []), 0, 0),
   ((4, [qtN 0 9 9, qtN 1 0 11, qtN 2 8 2147483647], [], [qvK (.negSucc 1)], zh29, []), 0, 0),
   ((4, [qtN 0 9 9, qtN 1 0 11, qtN 2 0 7], [], [qvK (.ofNat 0)], [zc27, qiC 0 [qgN 1 3 3, qgN 0 0 0, .inl ((.ofNat 1), []), qgN 6 0 0, qgN 1 3 3, qgN 1 5 5, qgN 7 0 0, qgN 1 100 100, qgN 2 0 0, .inr (1, (.negSucc 0), (.negSucc 0)), qgN 21 0 0, qgN 1 1 1, qgN 39 0 0, qgN 1 1 1, qgN 39 0 0, qgN 1 1 1, qgN 39 0 0, qgN 1 1 1, qgN 37 0 0, .inl ((.ofNat 9), []), qgN 0 0 0, qgS 1, qgN 0 0 0, qgS 2, qgN 0 0 0, qgS 3, qgN 580 0 0, .inr (1, (.negSucc 99), (.negSucc 99)), qgN 1 100 100, .inr (1, (.negSucc 99), (.negSucc 99)), qgN 1 100 100, .inr (1, (.negSucc 99), (.negSucc 99)), qgN 1 100 100, .inr (1, (.negSucc 99), (.negSucc 99)), qgN 1 100 100, qgN 118 0 0], qiC 0 [qgN 1820 0 0], qiC 3 [qgN 2 0 0], qiC 0 [qgN 70 0 0], qiC 0 [qgN 70 0 0], qiC 0 [qgN 70 0 0], qjC 1 1000000070, qjC 1 1000000008, qiC 0 [qgN 910 0 0], qiC 0 [qgN 910 0 0], qiC 0 [qgN 20 0 0], qiC 0 [qgN 20 0 0], qiC 0 [qgN 910 0 0], qjC 1 1000000004], []), 0, 0),
   ((4, [qtN 0 10 10, qtN 1 0 11, (2, (.negSucc 2147483647), (.ofNat 0))], [], [qvK (.negSucc 1)], zh29, []), 0, 0),
   ((4, [qtN 0 10 10, qtN 1 0 11, qtN 2 21 2147483647], [], [qvK (.negSucc 1)], zh29, []), 0, 0),
   ((4, [qtN 0 10 10, qtN 1 0 11, qtN 2 1 20], [], [qvK (.ofNat 0)], [zc27, qiC 0 [qgN 1 3 3, qgN 0 0 0, .inl ((.ofNat 1), []), qgN 6 0 0, qgN 1 3 3, qgN 1 5 5, qgN 7 0 0, qgN 1 100 100, qgN 2 0 0, .inr (1, (.negSucc 0), (.negSucc 0)), qgN 21 0 0, qgN 1 1 1, qgN 39 0 0, qgN 1 1 1, qgN 39 0 0, qgN 1 1 1, qgN 39 0 0, qgN 1 1 1, qgN 37 0 0, .inl ((.ofNat 10), []), qgN 0 0 0, qgS 1, qgN 0 0 0, qgS 2, qgN 0 0 0, qgS 3, qgN 580 0 0, .inr (1, (.negSucc 99), (.negSucc 99)), qgN 1 100 100, .inr (1, (.negSucc 99), (.negSucc 99)), qgN 1 100 100, .inr (1, (.negSucc 99), (.negSucc 99)), qgN 1 100 100, .inr (1, (.negSucc 99), (.negSucc 99)), qgN 1 100 100, qgN 118 0 0], qiC 0 [qgN 1820 0 0], qiC 3 [qgN 2 0 0], qiC 0 [qgN 70 0 0], qiC 0 [qgN 70 0 0], qiC 0 [qgN 70 0 0], qjC 1 1000000070, qjC 1 1000000008, qiC 0 [qgN 910 0 0], qiC 0 [qgN 910 0 0], qiC 0 [qgN 20 0 0], qiC 0 [qgN 20 0 0], qiC 0 [qgN 910 0 0], qjC 1 1000000004], []), 0, 0)])
noncomputable def c146_0_e : List Ct := [c147_0, c148_0, c148_1, c148_10, c148_2, c148_3, c148_4, c148_5, c148_6, c148_7, c148_8, c148_9]
noncomputable def c146_0_pts : List PE := []
set_option maxRecDepth 100000 in
theorem c146_0_k : enCtF c146_0 c146_0_e (pkP (c146_0_pts ++ []) []) (none) noH 3000 = true := by decide +kernel
set_option maxRecDepth 100000 in
theorem c146_0_v : ValidC PPk c146_0 := ct_ok fpk noH_ok (d := 2) (ext := []) (pts := c146_0_pts) (env := c146_0_e) rfl (List.forall_mem_cons.mpr ⟨⟨c147_0_v, Nat.le_of_ble_eq_true rfl⟩, List.forall_mem_cons.mpr ⟨⟨c148_0_v, Nat.le_of_ble_eq_true rfl⟩, List.forall_mem_cons.mpr ⟨⟨c148_1_v, Nat.le_of_ble_eq_true rfl⟩, List.forall_mem_cons.mpr ⟨⟨c148_10_v, Nat.le_of_ble_eq_true rfl⟩, List.forall_mem_cons.mpr ⟨⟨c148_2_v, Nat.le_of_ble_eq_true rfl⟩, List.forall_mem_cons.mpr ⟨⟨c148_3_v, Nat.le_of_ble_eq_true rfl⟩, List.forall_mem_cons.mpr ⟨⟨c148_4_v, Nat.le_of_ble_eq_true rfl⟩, List.forall_mem_cons.mpr ⟨⟨c148_5_v, Nat.le_of_ble_eq_true rfl⟩, List.forall_mem_cons.mpr ⟨⟨c148_6_v, Nat.le_of_ble_eq_true rfl⟩, List.forall_mem_cons.mpr ⟨⟨c148_7_v, Nat.le_of_ble_eq_true rfl⟩, List.forall_mem_cons.mpr ⟨⟨c148_8_v, Nat.le_of_ble_eq_true rfl⟩, List.forall_mem_cons.mpr ⟨⟨c148_9_v, Nat.le_of_ble_eq_true rfl⟩, fun _ h => (by cases h)⟩⟩⟩⟩⟩⟩⟩⟩⟩⟩⟩⟩) ext_nil (fun q h => (by cases h)) (enF c146_0_k) (fun _ h => (by cases h))

noncomputable def c12_6 : Ct := (12, 1, (1, [qtA 0], [], [qvS 0, qvK (.ofNat 0), qvK (.ofNat 5)], [], []),
  [((1, [(0, (.negSucc 2147483647), (.negSucc 0))], [], [qvK (.ofNat 0)], [], []), 0, 0),
   ((1, [qtN 0 6 2147483647], [], [qvK (.ofNat 0)], [], []), 0, 0),
   ((1, [qtN 0 0 5], [], [qvK (.ofNat 1)], [], []), 0, 0)])
noncomputable def c12_6_e : List Ct := []
noncomputable def c12_6_pts : List PE := []
set_option maxRecDepth 100000 in
theorem c12_6_k : enCtF c12_6 c12_6_e (pkP (c12_6_pts ++ []) []) (none) noH 3000 = true := by decide +kernel
set_option maxRecDepth 100000 in
theorem c12_6_v : ValidC PPk c12_6 := ct_ok fpk noH_ok (d := 0) (ext := []) (pts := c12_6_pts) (env := c12_6_e) rfl (fun _ h => (by cases h)) ext_nil (fun q h => (by cases h)) (enF c12_6_k) (fun _ h => (by cases h))

noncomputable def c12_7 : Ct := (12, 1, (1, [qtA 0], [], [qvS 0, qvK (.ofNat 0), qvK (.ofNat 60)], [], []),
  [((1, [(0, (.negSucc 2147483647), (.negSucc 0))], [], [qvK (.ofNat 0)], [], []), 0, 0),
   ((1, [qtN 0 61 2147483647], [], [qvK (.ofNat 0)], [], []), 0, 0),
   ((1, [qtN 0 0 60], [], [qvK (.ofNat 1)], [], []), 0, 0)])
noncomputable def c12_7_e : List Ct := []
noncomputable def c12_7_pts : List PE := []
set_option maxRecDepth 100000 in
theorem c12_7_k : enCtF c12_7 c12_7_e (pkP (c12_7_pts ++ []) []) (none) noH 3000 = true := by decide +kernel
set_option maxRecDepth 100000 in
theorem c12_7_v : ValidC PPk c12_7 := ct_ok fpk noH_ok (d := 0) (ext := []) (pts := c12_7_pts) (env := c12_7_e) rfl (fun _ h => (by cases h)) ext_nil (fun q h => (by cases h)) (enF c12_7_k) (fun _ h => (by cases h))

noncomputable def c12_8 : Ct := (12, 1, (2, [qtA 0, qtA 1], [], [qvS 0, qvS 1, qvK (.ofNat 60)], [], []),
  [((2, [(0, (.negSucc 2147483647), (.ofNat 2147483646)), (1, (.negSucc 2147483646), (.ofNat 2147483647))], [((.ofNat 1), [(0, (.ofNat 1)), (1, (.negSucc 0))])], [qvK (.ofNat 0)], [], []), 0, 0),
   ((2, [qtN 0 61 2147483647], [((.ofNat 0), [(0, (.negSucc 0)), (1, (.ofNat 1))])], [qvK (.ofNat 0)], [], []), 0, 0),
   ((2, [(0, (.negSucc 2147483647), (.ofNat 60))], [((.ofNat 0), [(0, (.negSucc 0)), (1, (.ofNat 1))])], [qvK (.ofNat 1)], [], []), 0, 0)])
noncomputable def c12_8_e : List Ct := []
noncomputable def c12_8_pts : List PE := []
set_option maxRecDepth 100000 in
theorem c12_8_k : enCtF c12_8 c12_8_e (pkP (c12_8_pts ++ []) []) (none) noH 3000 = true := by decide +kernel
set_option maxRecDepth 100000 in
theorem c12_8_v : ValidC PPk c12_8 := ct_ok fpk noH_ok (d := 0) (ext := []) (pts := c12_8_pts) (env := c12_8_e) rfl (fun _ h => (by cases h)) ext_nil (fun q h => (by cases h)) (enF c12_8_k) (fun _ h => (by cases h))

noncomputable def zc64 : AC := qiC 0 [.inr (4, (.negSucc 99), (.negSucc 99))]
noncomputable def zc65 : AC := qoC 7 [qvR 42, qvK (.ofNat 7), qvR 51, qvR 55, qvR 56, qvK (.ofNat 0), qvK (.ofNat 0), qvK (.ofNat 0), qvS 3, qvK (.ofNat 0), qvK (.ofNat 0), qvS 4, qvK (.ofNat 0), qvK (.ofNat 0), qvK (.ofNat 0), qvK (.ofNat 0), qvK (.negSucc 0)]
noncomputable def zh66 : AH := [zc23, zc15, qrC 4 [some 3, some 8], zc16, qiC 0 [qgN 60 0 0], qiC 0 [qgN 60 0 0], qiC 0 [qgN 60 0 0], qiC 0 [qgN 60 0 0], zc17, qiC 0 [qgN 60 0 0], qiC 0 [qgN 60 0 0], qiC 0 [qgN 60 0 0], qiC 0 [qgN 60 0 0], zc18, qiC 0 [qgA 6], qiC 0 [qgA 6], qiC 0 [qgN 8 0 0], qiC 0 [qgN 8 0 0], qiC 0 [qgN 8 0 0], qiC 0 [qgN 8 0 0], qiC 0 [qgN 8 0 0], zc19, qiC 0 [qgN 6 0 0], qiC 0 [qgN 6 0 0], qiC 0 [qgN 6 0 0], qiC 0 [qgN 6 0 0], zc64, qiC 0 [qgN 4 100 100], zc20, qiC 2 [qgN 60 0 0], qiC 0 [qgN 60 0 0], qjC 1 1000000060, zc21, qiC 0 [qgN 8 0 0], qiC 0 [qgN 8 0 0], qiC 0 [qgN 8 0 0], qiC 0 [qgN 8 0 0], qiC 0 [qgN 8 0 0], qiC 0 [qgN 10 0 0], qiC 0 [qgN 4 0 0], qiC 0 [qgN 4 0 0], zc65, zc38, zc39, qiC 0 [qgN 12 0 0], zc40, qiC 0 [qgN 12 0 0], zc41, qiC 0 [qgN 12 0 0], zc24, qiC 0 [qgN 12 0 0], zc42, qiC 0 [qgN 32 0 0], qiC 0 [qgN 8 0 0], qiC 0 [qgN 8 0 0], qiC 0 [qgN 2 0 0], qiC 0 [qgN 6 0 0], zc26, qjC 1 1000000006, qjC 1 1000000004, qrC 6 [none, none], qrC 7 [none, none]]
noncomputable def c19_0 : Ct := (19, 2, (5, [qtA 0, qtA 1, qtA 2, qtA 3, qtN 4 0 1001], [], [qvR 0, qvS 0, qvS 1, qvS 2], zh66, []),
  [((5, [(0, (.negSucc 2147483647), (.negSucc 0))], [], [qvK (.negSucc 1)], zh66, []), 0, 0),
   ((5, [qtN 0 6 2147483647], [], [qvK (.negSucc 1)], zh66, []), 0, 0),
   ((5, [qtN 0 0 5, (1, (.negSucc 2147483647), (.negSucc 0))], [], [qvK (.negSucc 1)], zh66, []), 0, 0),
   ((5, [qtN 0 0 5, qtN 1 61 2147483647], [], [qvK (.negSucc 1)], zh66, []), 0, 0),
   ((5, [qtN 0 0 5, qtN 1 0 60, (2, (.negSucc 2147483647), (.ofNat 59))], [((.ofNat 1), [(1, (.negSucc 0)), (2, (.ofNat 1))])], [qvK (.negSucc 1)], zh66, []), 0, 0),
   ((5, [qtN 0 0 5, qtN 1 0 60, qtN 2 61 2147483647], [], [qvK (.negSucc 1)], zh66, []), 0, 0),
   ((5, [qtN 0 0 5, qtN 1 0 60, qtN 2 0 60], [((.ofNat 0), [(1, (.ofNat 1)), (2, (.negSucc 0))])], [qvK (.ofNat 1)], zh66, []), 0, 0)])
noncomputable def c19_0_e : List Ct := [c12_6, c12_7, c12_8]
noncomputable def c19_0_pts : List PE := []
set_option maxRecDepth 100000 in
theorem c19_0_k : enCtF c19_0 c19_0_e (pkP (c19_0_pts ++ []) []) (none) noH 3000 = true := by decide +kernel
set_option maxRecDepth 100000 in
theorem c19_0_v : ValidC PPk c19_0 := ct_ok fpk noH_ok (d := 1) (ext := []) (pts := c19_0_pts) (env := c19_0_e) rfl (List.forall_mem_cons.mpr ⟨⟨c12_6_v, Nat.le_of_ble_eq_true rfl⟩, List.forall_mem_cons.mpr ⟨⟨c12_7_v, Nat.le_of_ble_eq_true rfl⟩, List.forall_mem_cons.mpr ⟨⟨c12_8_v, Nat.le_of_ble_eq_true rfl⟩, fun _ h => (by cases h)⟩⟩⟩) ext_nil (fun q h => (by cases h)) (enF c19_0_k) (fun _ h => (by cases h))

noncomputable def c145_6 : Ct := (145, 1, (1, [qtA 0], [], [qvS 0, qvK (.ofNat 0), qvK (.ofNat 5)], [], []),
  [((1, [(0, (.negSucc 2147483647), (.negSucc 0))], [], [qvK (.ofNat 0)], [], []), 0, 0),
   ((1, [qtN 0 6 2147483647], [], [qvK (.ofNat 0)], [], []), 0, 0),
   ((1, [qtN 0 0 5], [], [qvK (.ofNat 1)], [], []), 0, 0)])
noncomputable def c145_6_e : List Ct := []
noncomputable def c145_6_pts : List PE := []
set_option maxRecDepth 100000 in
theorem c145_6_k : enCtF c145_6 c145_6_e (pkP (c145_6_pts ++ []) []) (none) noH 3000 = true := by decide +kernel
set_option maxRecDepth 100000 in
theorem c145_6_v : ValidC PPk c145_6 := ct_ok fpk noH_ok (d := 0) (ext := []) (pts := c145_6_pts) (env := c145_6_e) rfl (fun _ h => (by cases h)) ext_nil (fun q h => (by cases h)) (enF c145_6_k) (fun _ h => (by cases h))

noncomputable def c145_7 : Ct := (145, 1, (1, [qtA 0], [], [qvS 0, qvK (.ofNat 0), qvK (.ofNat 60)], [], []),
  [((1, [(0, (.negSucc 2147483647), (.negSucc 0))], [], [qvK (.ofNat 0)], [], []), 0, 0),
   ((1, [qtN 0 61 2147483647], [], [qvK (.ofNat 0)], [], []), 0, 0),
   ((1, [qtN 0 0 60], [], [qvK (.ofNat 1)], [], []), 0, 0)])
noncomputable def c145_7_e : List Ct := []
noncomputable def c145_7_pts : List PE := []
set_option maxRecDepth 100000 in
theorem c145_7_k : enCtF c145_7 c145_7_e (pkP (c145_7_pts ++ []) []) (none) noH 3000 = true := by decide +kernel
set_option maxRecDepth 100000 in
theorem c145_7_v : ValidC PPk c145_7 := ct_ok fpk noH_ok (d := 0) (ext := []) (pts := c145_7_pts) (env := c145_7_e) rfl (fun _ h => (by cases h)) ext_nil (fun q h => (by cases h)) (enF c145_7_k) (fun _ h => (by cases h))

noncomputable def c145_8 : Ct := (145, 1, (2, [qtA 0, qtA 1], [], [qvS 0, qvS 1, qvK (.ofNat 60)], [], []),
  [((2, [(0, (.negSucc 2147483647), (.ofNat 2147483646)), (1, (.negSucc 2147483646), (.ofNat 2147483647))], [((.ofNat 1), [(0, (.ofNat 1)), (1, (.negSucc 0))])], [qvK (.ofNat 0)], [], []), 0, 0),
   ((2, [qtN 0 61 2147483647], [((.ofNat 0), [(0, (.negSucc 0)), (1, (.ofNat 1))])], [qvK (.ofNat 0)], [], []), 0, 0),
   ((2, [(0, (.negSucc 2147483647), (.ofNat 60))], [((.ofNat 0), [(0, (.negSucc 0)), (1, (.ofNat 1))])], [qvK (.ofNat 1)], [], []), 0, 0)])
noncomputable def c145_8_e : List Ct := []
noncomputable def c145_8_pts : List PE := []
set_option maxRecDepth 100000 in
theorem c145_8_k : enCtF c145_8 c145_8_e (pkP (c145_8_pts ++ []) []) (none) noH 3000 = true := by decide +kernel
set_option maxRecDepth 100000 in
theorem c145_8_v : ValidC PPk c145_8 := ct_ok fpk noH_ok (d := 0) (ext := []) (pts := c145_8_pts) (env := c145_8_e) rfl (fun _ h => (by cases h)) ext_nil (fun q h => (by cases h)) (enF c145_8_k) (fun _ h => (by cases h))

noncomputable def zh67 : AH := [zc27, qiC 0 [qgN 1 3 3, qgN 7 0 0, qgN 1 3 3, qgN 1 5 5, qgN 7 0 0, qgN 1 100 100, qgN 2 0 0, .inr (1, (.negSucc 0), (.negSucc 0)), qgN 21 0 0, qgN 1 1 1, qgN 39 0 0, qgN 1 1 1, qgN 39 0 0, qgN 1 1 1, qgN 39 0 0, qgN 1 1 1, qgN 517 0 0, qgA 12, qgN 92 0 0, .inr (1, (.negSucc 99), (.negSucc 99)), qgN 1 100 100, .inr (1, (.negSucc 99), (.negSucc 99)), qgN 1 100 100, .inr (1, (.negSucc 99), (.negSucc 99)), qgN 1 100 100, .inr (1, (.negSucc 99), (.negSucc 99)), qgN 1 100 100, qgN 118 0 0], qiC 0 [qgN 1820 0 0], qiC 3 [qgN 2 0 0], qiC 0 [qgN 70 0 0], qiC 0 [qgN 70 0 0], qiC 0 [qgN 70 0 0], qjC 1 1000000070, qjC 1 1000000008, qiC 0 [qgN 910 0 0], qiC 0 [qgN 910 0 0], qiC 0 [qgN 20 0 0], qiC 0 [qgN 20 0 0], qiC 0 [qgN 910 0 0], qjC 1 1000000004]
noncomputable def c149_0 : Ct := (149, 2, (3, [qtA 0, qtA 1, qtA 2], [], [qvR 0, qvS 0, qvS 1, qvS 2], zh67, []),
  [((3, [(0, (.negSucc 2147483647), (.negSucc 0))], [], [qvK (.negSucc 1)], zh67, []), 0, 0),
   ((3, [qtN 0 6 2147483647], [], [qvK (.negSucc 1)], zh67, []), 0, 0),
   ((3, [qtN 0 0 5, (1, (.negSucc 2147483647), (.negSucc 0))], [], [qvK (.negSucc 1)], zh67, []), 0, 0),
   ((3, [qtN 0 0 5, qtN 1 61 2147483647], [], [qvK (.negSucc 1)], zh67, []), 0, 0),
   ((3, [qtN 0 0 5, qtN 1 0 60, (2, (.negSucc 2147483647), (.ofNat 59))], [((.ofNat 1), [(1, (.negSucc 0)), (2, (.ofNat 1))])], [qvK (.negSucc 1)], zh67, []), 0, 0),
   ((3, [qtN 0 0 5, qtN 1 0 60, qtN 2 61 2147483647], [], [qvK (.negSucc 1)], zh67, []), 0, 0),
   ((3, [qtN 0 0 5, qtN 1 0 60, qtN 2 0 60], [((.ofNat 0), [(1, (.ofNat 1)), (2, (.negSucc 0))])], [qvK (.ofNat 1)], zh67, []), 0, 0)])
noncomputable def c149_0_e : List Ct := [c145_6, c145_7, c145_8]
noncomputable def c149_0_pts : List PE := []
set_option maxRecDepth 100000 in
theorem c149_0_k : enCtF c149_0 c149_0_e (pkP (c149_0_pts ++ []) []) (none) noH 3000 = true := by decide +kernel
set_option maxRecDepth 100000 in
theorem c149_0_v : ValidC PPk c149_0 := ct_ok fpk noH_ok (d := 1) (ext := []) (pts := c149_0_pts) (env := c149_0_e) rfl (List.forall_mem_cons.mpr ⟨⟨c145_6_v, Nat.le_of_ble_eq_true rfl⟩, List.forall_mem_cons.mpr ⟨⟨c145_7_v, Nat.le_of_ble_eq_true rfl⟩, List.forall_mem_cons.mpr ⟨⟨c145_8_v, Nat.le_of_ble_eq_true rfl⟩, fun _ h => (by cases h)⟩⟩⟩) ext_nil (fun q h => (by cases h)) (enF c149_0_k) (fun _ h => (by cases h))

noncomputable def c12_9 : Ct := (12, 1, (1, [qtA 0], [], [qvS 0, qvK (.ofNat 0), qvK (.ofNat 39)], [], []),
  [((1, [(0, (.negSucc 2147483647), (.negSucc 0))], [], [qvK (.ofNat 0)], [], []), 0, 0),
   ((1, [qtN 0 40 2147483647], [], [qvK (.ofNat 0)], [], []), 0, 0),
   ((1, [qtN 0 0 39], [], [qvK (.ofNat 1)], [], []), 0, 0)])
noncomputable def c12_9_e : List Ct := []
noncomputable def c12_9_pts : List PE := []
set_option maxRecDepth 100000 in
theorem c12_9_k : enCtF c12_9 c12_9_e (pkP (c12_9_pts ++ []) []) (none) noH 3000 = true := by decide +kernel
set_option maxRecDepth 100000 in
theorem c12_9_v : ValidC PPk c12_9 := ct_ok fpk noH_ok (d := 0) (ext := []) (pts := c12_9_pts) (env := c12_9_e) rfl (fun _ h => (by cases h)) ext_nil (fun q h => (by cases h)) (enF c12_9_k) (fun _ h => (by cases h))

noncomputable def c12_10 : Ct := (12, 1, (1, [qtA 0], [], [qvS 0, qvK (.ofNat 1), qvK (.ofNat 40)], [], []),
  [((1, [(0, (.negSucc 2147483647), (.ofNat 0))], [], [qvK (.ofNat 0)], [], []), 0, 0),
   ((1, [qtN 0 41 2147483647], [], [qvK (.ofNat 0)], [], []), 0, 0),
   ((1, [qtN 0 1 40], [], [qvK (.ofNat 1)], [], []), 0, 0)])
noncomputable def c12_10_e : List Ct := []
noncomputable def c12_10_pts : List PE := []
set_option maxRecDepth 100000 in
theorem c12_10_k : enCtF c12_10 c12_10_e (pkP (c12_10_pts ++ []) []) (none) noH 3000 = true := by decide +kernel
set_option maxRecDepth 100000 in
theorem c12_10_v : ValidC PPk c12_10 := ct_ok fpk noH_ok (d := 0) (ext := []) (pts := c12_10_pts) (env := c12_10_e) rfl (fun _ h => (by cases h)) ext_nil (fun q h => (by cases h)) (enF c12_10_k) (fun _ h => (by cases h))

noncomputable def zh68 : AH := [zc0, qkC 100 2, qkC 100 3, qkC 100 4, qkC 100 5, qkC 100 6]
noncomputable def c21_0 : Ct := (21, 1, (7, [qtN 0 0 39, qtN 1 1 40], [], [qvR 0, qvS 0, qvS 1], zh68, []),
  [((7, [qtN 0 1 39, qtN 1 2 40], [((.ofNat 41), [(0, (.negSucc 0)), (1, (.negSucc 0))])], [qvK (.ofNat 0)], zh68, []), 0, 0),
   ((7, [], [((.negSucc 39), [(0, (.ofNat 1)), (1, (.ofNat 1))])], [qvK (.ofNat 1)], zh68, []), 0, 0)])
noncomputable def c21_0_e : List Ct := []
noncomputable def c21_0_p0 : PE := (12, [0, 1, 2, 3], (7, [qtN 0 0 39, qtN 1 1 40], [((.negSucc 39), [(0, (.ofNat 1)), (1, (.ofNat 1))])], [qvR 0, qvS 0, qvS 1, qvK (.ofNat 0)], zh68, []), symsL 7 0, some ((.ofNat 1), []), 0, 0)
noncomputable def c21_0_pts : List PE := [c21_0_p0]
set_option maxRecDepth 100000 in
theorem c21_0_k : enCtF c21_0 c21_0_e (pkP (c21_0_pts ++ []) [0]) (none) (noF, noM, 4096, 0, 7) 3000 = true := by decide +kernel
set_option maxRecDepth 100000 in
theorem c21_0_k0 : ptCtF c21_0 c21_0_e (pkP (c21_0_pts ++ []) []) (noF, noM, 4096, 0, 7) 3000 c21_0_p0 = true := by decide +kernel
set_option maxRecDepth 100000 in
theorem c21_0_v : ValidC PPk c21_0 := ct_ok fpk ⟨noF_ok, noM_ok⟩ (d := 0) (ext := []) (pts := c21_0_pts) (env := c21_0_e) rfl (fun _ h => (by cases h)) ext_nil (fun q h => (by cases h)) (enF c21_0_k) (List.forall_mem_cons.mpr ⟨⟨_, ptF c21_0_k0⟩, fun _ h => (by cases h)⟩)

noncomputable def zh69 : AH := [zc0, qkC 100 3, qkC 100 4, qiC 0 [qgN 8 0 0], qiC 0 [qgN 8 0 0], qiC 0 [qgN 8 0 0]]
noncomputable def zc70 : AC := qiC 0 [qgN 0 0 0, qgS 0, qgN 7 0 0]
noncomputable def zc71 : AC := qiC 0 [qgN 0 0 0, qgS 1, qgN 7 0 0]
noncomputable def zc72 : AC := qiC 0 [qgN 0 0 0, qgS 2, qgN 7 0 0]
noncomputable def c22_0 : Ct := (22, 1, (5, [qtA 0, qtA 1, qtA 2], [], [qvR 0, qvS 0, qvS 1, qvS 2], zh69, []),
  [((5, [], [], [], [qoC 3 [qvR 1, qvR 2, qvK (.ofNat 1), qvR 3, qvR 4, qvR 5], qkC 100 3, qkC 100 4, zc70, zc71, zc72], []), 0, 0)])
noncomputable def c22_0_e : List Ct := []
noncomputable def c22_0_p0 : PE := (16, [0, 1, 2, 3, 4], (5, [qtA 0, qtA 1, qtA 2], [], [qvR 0, qvS 0, qvS 1, qvS 2, qvK (.ofNat 0)], zh69, []), symsL 5 0, some ((.ofNat 1), []), 0, 0)
noncomputable def c22_0_pts : List PE := [c22_0_p0]
set_option maxRecDepth 100000 in
theorem c22_0_k : enCtF c22_0 c22_0_e (pkP (c22_0_pts ++ []) [0]) (none) (noF, noM, 65536, 0, 5) 3000 = true := by decide +kernel
set_option maxRecDepth 100000 in
theorem c22_0_k0 : ptCtF c22_0 c22_0_e (pkP (c22_0_pts ++ []) []) (noF, noM, 65536, 0, 5) 3000 c22_0_p0 = true := by decide +kernel
set_option maxRecDepth 100000 in
theorem c22_0_v : ValidC PPk c22_0 := ct_ok fpk ⟨noF_ok, noM_ok⟩ (d := 0) (ext := []) (pts := c22_0_pts) (env := c22_0_e) rfl (fun _ h => (by cases h)) ext_nil (fun q h => (by cases h)) (enF c22_0_k) (List.forall_mem_cons.mpr ⟨⟨_, ptF c22_0_k0⟩, fun _ h => (by cases h)⟩)

noncomputable def c20_0 : Ct := (20, 2, (3, [qtA 0, qtA 1, qtA 2], [], [qvR 0, qvS 0, qvS 1, qvS 2], zh43, []),
  [((3, [(0, (.negSucc 2147483647), (.negSucc 0))], [], [qvK (.negSucc 1)], zh43, []), 0, 0),
   ((3, [qtN 0 6 2147483647], [], [qvK (.negSucc 1)], zh43, []), 0, 0),
   ((3, [qtN 0 0 5, (1, (.negSucc 2147483647), (.negSucc 0))], [], [qvK (.negSucc 1)], zh43, []), 0, 0),
   ((3, [qtN 0 0 5, qtN 1 40 2147483647], [], [qvK (.negSucc 1)], zh43, []), 0, 0),
   ((3, [qtN 0 0 5, qtN 1 0 39, (2, (.negSucc 2147483647), (.ofNat 0))], [], [qvK (.negSucc 1)], zh43, []), 0, 0),
   ((3, [qtN 0 0 5, qtN 1 0 39, qtN 2 41 2147483647], [], [qvK (.negSucc 1)], zh43, []), 0, 0),
   ((3, [qtN 0 0 5, qtN 1 1 39, qtN 2 2 40], [((.ofNat 41), [(1, (.negSucc 0)), (2, (.negSucc 0))])], [qvK (.negSucc 2)], zh43, []), 0, 0),
   ((3, [qtN 0 0 5, qtN 1 0 39, qtN 2 1 40], [((.negSucc 39), [(1, (.ofNat 1)), (2, (.ofNat 1))])], [qvK (.ofNat 0)], [zc23, zc15, qrC 4 [some 3, some 8], zc16, qiC 0 [qgN 60 0 0], qiC 0 [qgN 60 0 0], qiC 0 [qgN 60 0 0], qiC 0 [qgN 60 0 0], zc17, qiC 0 [qgN 60 0 0], qiC 0 [qgN 60 0 0], qiC 0 [qgN 60 0 0], qiC 0 [qgN 60 0 0], qoC 3 [qvR 14, qvR 15, qvK (.ofNat 1), qvR 16, qvR 17, qvR 18], qiC 0 [qgN 6 0 0], qiC 0 [qgN 6 0 0], zc70, zc71, zc72, qiC 0 [qgN 8 0 0], qiC 0 [qgN 8 0 0], zc19, qiC 0 [qgN 6 0 0], qiC 0 [qgN 6 0 0], qiC 0 [qgN 6 0 0], qiC 0 [qgN 6 0 0], zc9, zc10, zc20, qiC 2 [qgN 60 0 0], qiC 0 [qgN 60 0 0], qjC 1 1000000060, zc21, qiC 0 [qgN 8 0 0], qiC 0 [qgN 8 0 0], qiC 0 [qgN 8 0 0], qiC 0 [qgN 8 0 0], qiC 0 [qgN 8 0 0], qiC 0 [qgN 10 0 0], qiC 0 [qgN 4 0 0], qiC 0 [qgN 4 0 0], zc37, zc38, zc39, qiC 0 [qgN 12 0 0], zc40, qiC 0 [qgN 12 0 0], zc41, qiC 0 [qgN 12 0 0], zc24, qiC 0 [qgN 12 0 0], zc42, qiC 0 [qgN 32 0 0], qiC 0 [qgN 8 0 0], qiC 0 [qgN 8 0 0], qiC 0 [qgN 2 0 0], qiC 0 [qgN 6 0 0], zc26, qjC 1 1000000006, qjC 1 1000000004, qrC 6 [none, none], qrC 7 [none, none]], []), 0, 0)])
noncomputable def c20_0_e : List Ct := [c12_10, c12_6, c12_9, c21_0, c22_0]
noncomputable def c20_0_pts : List PE := []
set_option maxRecDepth 100000 in
theorem c20_0_k : enCtF c20_0 c20_0_e (pkP (c20_0_pts ++ []) []) (none) noH 3000 = true := by decide +kernel
set_option maxRecDepth 100000 in
theorem c20_0_v : ValidC PPk c20_0 := ct_ok fpk noH_ok (d := 1) (ext := []) (pts := c20_0_pts) (env := c20_0_e) rfl (List.forall_mem_cons.mpr ⟨⟨c12_10_v, Nat.le_of_ble_eq_true rfl⟩, List.forall_mem_cons.mpr ⟨⟨c12_6_v, Nat.le_of_ble_eq_true rfl⟩, List.forall_mem_cons.mpr ⟨⟨c12_9_v, Nat.le_of_ble_eq_true rfl⟩, List.forall_mem_cons.mpr ⟨⟨c21_0_v, Nat.le_of_ble_eq_true rfl⟩, List.forall_mem_cons.mpr ⟨⟨c22_0_v, Nat.le_of_ble_eq_true rfl⟩, fun _ h => (by cases h)⟩⟩⟩⟩⟩) ext_nil (fun q h => (by cases h)) (enF c20_0_k) (fun _ h => (by cases h))

noncomputable def c145_9 : Ct := (145, 1, (1, [qtA 0], [], [qvS 0, qvK (.ofNat 0), qvK (.ofNat 39)], [], []),
  [((1, [(0, (.negSucc 2147483647), (.negSucc 0))], [], [qvK (.ofNat 0)], [], []), 0, 0),
   ((1, [qtN 0 40 2147483647], [], [qvK (.ofNat 0)], [], []), 0, 0),
   ((1, [qtN 0 0 39], [], [qvK (.ofNat 1)], [], []), 0, 0)])
noncomputable def c145_9_e : List Ct := []
noncomputable def c145_9_pts : List PE := []
set_option maxRecDepth 100000 in
theorem c145_9_k : enCtF c145_9 c145_9_e (pkP (c145_9_pts ++ []) []) (none) noH 3000 = true := by decide +kernel
set_option maxRecDepth 100000 in
theorem c145_9_v : ValidC PPk c145_9 := ct_ok fpk noH_ok (d := 0) (ext := []) (pts := c145_9_pts) (env := c145_9_e) rfl (fun _ h => (by cases h)) ext_nil (fun q h => (by cases h)) (enF c145_9_k) (fun _ h => (by cases h))

noncomputable def c145_10 : Ct := (145, 1, (1, [qtA 0], [], [qvS 0, qvK (.ofNat 1), qvK (.ofNat 40)], [], []),
  [((1, [(0, (.negSucc 2147483647), (.ofNat 0))], [], [qvK (.ofNat 0)], [], []), 0, 0),
   ((1, [qtN 0 41 2147483647], [], [qvK (.ofNat 0)], [], []), 0, 0),
   ((1, [qtN 0 1 40], [], [qvK (.ofNat 1)], [], []), 0, 0)])
noncomputable def c145_10_e : List Ct := []
noncomputable def c145_10_pts : List PE := []
set_option maxRecDepth 100000 in
theorem c145_10_k : enCtF c145_10 c145_10_e (pkP (c145_10_pts ++ []) []) (none) noH 3000 = true := by decide +kernel
set_option maxRecDepth 100000 in
theorem c145_10_v : ValidC PPk c145_10 := ct_ok fpk noH_ok (d := 0) (ext := []) (pts := c145_10_pts) (env := c145_10_e) rfl (fun _ h => (by cases h)) ext_nil (fun q h => (by cases h)) (enF c145_10_k) (fun _ h => (by cases h))

noncomputable def c150_0 : Ct := (150, 2, (3, [qtA 0, qtA 1, qtA 2], [], [qvR 0, qvS 0, qvS 1, qvS 2], zh29, []),
  [((3, [(0, (.negSucc 2147483647), (.negSucc 0))], [], [qvK (.negSucc 1)], zh29, []), 0, 0),
   ((3, [qtN 0 6 2147483647], [], [qvK (.negSucc 1)], zh29, []), 0, 0),
   ((3, [qtN 0 0 5, (1, (.negSucc 2147483647), (.negSucc 0))], [], [qvK (.negSucc 1)], zh29, []), 0, 0),
   ((3, [qtN 0 0 5, qtN 1 40 2147483647], [], [qvK (.negSucc 1)], zh29, []), 0, 0),
   ((3, [qtN 0 0 5, qtN 1 0 39, (2, (.negSucc 2147483647), (.ofNat 0))], [], [qvK (.negSucc 1)], zh29, []), 0, 0),
   ((3, [qtN 0 0 5, qtN 1 0 39, qtN 2 41 2147483647], [], [qvK (.negSucc 1)], zh29, []), 0, 0),
   ((3, [qtN 0 0 5, qtN 1 1 39, qtN 2 2 40], [((.ofNat 41), [(1, (.negSucc 0)), (2, (.negSucc 0))])], [qvK (.negSucc 2)], zh29, []), 0, 0),
   ((3, [qtN 0 0 5, qtN 1 0 39, qtN 2 1 40], [((.negSucc 39), [(1, (.ofNat 1)), (2, (.ofNat 1))])], [qvK (.ofNat 0)], [zc27, qiC 0 [qgN 0 0 0, .inl ((.ofNat 3), []), qgN 1 0 0, .inl ((.ofNat 1), []), qgN 5 0 0, .inl ((.ofNat 3), []), qgN 0 0 0, .inl ((.ofNat 5), []), qgN 7 0 0, .inl ((.ofNat 100), []), qgN 2 0 0, .inl ((.negSucc 0), []), qgN 21 0 0, .inl ((.ofNat 1), []), qgN 39 0 0, .inl ((.ofNat 1), []), qgN 39 0 0, .inl ((.ofNat 1), []), qgN 39 0 0, .inl ((.ofNat 1), []), qgN 529 0 0, qgS 0, qgN 0 0 0, qgS 1, qgN 0 0 0, qgS 2, qgN 89 0 0, .inl ((.negSucc 99), []), qgN 0 0 0, .inl ((.ofNat 100), []), qgN 0 0 0, .inl ((.negSucc 99), []), qgN 0 0 0, .inl ((.ofNat 100), []), qgN 0 0 0, .inl ((.negSucc 99), []), qgN 0 0 0, .inl ((.ofNat 100), []), qgN 0 0 0, .inl ((.negSucc 99), []), qgN 0 0 0, .inl ((.ofNat 100), []), qgN 118 0 0], qiC 0 [qgN 1820 0 0], qiC 3 [qgN 2 0 0], qiC 0 [qgN 70 0 0], qiC 0 [qgN 70 0 0], qiC 0 [qgN 70 0 0], qjC 1 1000000070, qjC 1 1000000008, qiC 0 [qgN 910 0 0], qiC 0 [qgN 910 0 0], qiC 0 [qgN 20 0 0], qiC 0 [qgN 20 0 0], qiC 0 [qgN 910 0 0], qjC 1 1000000004], []), 0, 0)])
noncomputable def c150_0_e : List Ct := [c145_10, c145_6, c145_9]
noncomputable def c150_0_p0 : PE := (46, [0, 1, 2, 3, 4], (3, [qtN 0 0 5, qtN 1 0 39, qtN 2 1 40], [((.negSucc 39), [(1, (.ofNat 1)), (2, (.ofNat 1))])], [qvR 0, qvS 0, qvS 1, qvS 2, qvK (.ofNat 0)], zh29, []), symsL 3 0, some ((.ofNat 1), []), 0, 0)
noncomputable def c150_0_pts : List PE := [c150_0_p0]
set_option maxRecDepth 100000 in
theorem c150_0_k : enCtF c150_0 c150_0_e (pkP (c150_0_pts ++ []) [0]) (none) (noF, noM, 70368744177664, 0, 3) 3000 = true := by decide +kernel
set_option maxRecDepth 100000 in
theorem c150_0_k0 : ptCtF c150_0 c150_0_e (pkP (c150_0_pts ++ []) []) (noF, noM, 70368744177664, 0, 3) 3000 c150_0_p0 = true := by decide +kernel
set_option maxRecDepth 100000 in
theorem c150_0_v : ValidC PPk c150_0 := ct_ok fpk ⟨noF_ok, noM_ok⟩ (d := 1) (ext := []) (pts := c150_0_pts) (env := c150_0_e) rfl (List.forall_mem_cons.mpr ⟨⟨c145_10_v, Nat.le_of_ble_eq_true rfl⟩, List.forall_mem_cons.mpr ⟨⟨c145_6_v, Nat.le_of_ble_eq_true rfl⟩, List.forall_mem_cons.mpr ⟨⟨c145_9_v, Nat.le_of_ble_eq_true rfl⟩, fun _ h => (by cases h)⟩⟩⟩) ext_nil (fun q h => (by cases h)) (enF c150_0_k) (List.forall_mem_cons.mpr ⟨⟨_, ptF c150_0_k0⟩, fun _ h => (by cases h)⟩)

noncomputable def c23_0 : Ct := (23, 1, (0, [], [], [qvR 0], zh43, []),
  [((0, [], [], [qvK (.ofNat 0)], zh43, []), 0, 0)])
noncomputable def c23_0_e : List Ct := []
noncomputable def c23_0_pts : List PE := []
set_option maxRecDepth 100000 in
theorem c23_0_k : enCtF c23_0 c23_0_e (pkP (c23_0_pts ++ []) []) (none) noH 3000 = true := by decide +kernel
set_option maxRecDepth 100000 in
theorem c23_0_v : ValidC PPk c23_0 := ct_ok fpk noH_ok (d := 0) (ext := []) (pts := c23_0_pts) (env := c23_0_e) rfl (fun _ h => (by cases h)) ext_nil (fun q h => (by cases h)) (enF c23_0_k) (fun _ h => (by cases h))

noncomputable def c151_0 : Ct := (151, 1, (0, [], [], [qvR 0], zh29, []),
  [((0, [], [], [qvK (.ofNat 0)], zh29, []), 0, 0)])
noncomputable def c151_0_e : List Ct := []
noncomputable def c151_0_pts : List PE := []
set_option maxRecDepth 100000 in
theorem c151_0_k : enCtF c151_0 c151_0_e (pkP (c151_0_pts ++ []) []) (none) noH 3000 = true := by decide +kernel
set_option maxRecDepth 100000 in
theorem c151_0_v : ValidC PPk c151_0 := ct_ok fpk noH_ok (d := 0) (ext := []) (pts := c151_0_pts) (env := c151_0_e) rfl (fun _ h => (by cases h)) ext_nil (fun q h => (by cases h)) (enF c151_0_k) (fun _ h => (by cases h))

noncomputable def c12_11 : Ct := (12, 1, (1, [qtA 0], [], [qvS 0, qvK (.ofNat 0), qvK (.ofNat 100000)], [], []),
  [((1, [(0, (.negSucc 2147483647), (.negSucc 0))], [], [qvK (.ofNat 0)], [], []), 0, 0),
   ((1, [qtN 0 100001 2147483647], [], [qvK (.ofNat 0)], [], []), 0, 0),
   ((1, [qtN 0 0 100000], [], [qvK (.ofNat 1)], [], []), 0, 0)])
noncomputable def c12_11_e : List Ct := []
noncomputable def c12_11_pts : List PE := []
set_option maxRecDepth 100000 in
theorem c12_11_k : enCtF c12_11 c12_11_e (pkP (c12_11_pts ++ []) []) (none) noH 3000 = true := by decide +kernel
set_option maxRecDepth 100000 in
theorem c12_11_v : ValidC PPk c12_11 := ct_ok fpk noH_ok (d := 0) (ext := []) (pts := c12_11_pts) (env := c12_11_e) rfl (fun _ h => (by cases h)) ext_nil (fun q h => (by cases h)) (enF c12_11_k) (fun _ h => (by cases h))

noncomputable def zh73 : AH := [zc23, zc15, qrC 4 [some 3, some 8], zc16, qiC 0 [qgN 60 0 0], qiC 0 [qgN 60 0 0], qiC 0 [qgN 60 0 0], qiC 0 [qgN 60 0 0], zc17, qiC 0 [qgN 60 0 0], qiC 0 [qgN 60 0 0], qiC 0 [qgN 60 0 0], qiC 0 [qgN 60 0 0], zc18, qiC 0 [qgN 6 0 0], qiC 0 [qgN 6 0 0], qiC 0 [qgN 8 0 0], qiC 0 [qgN 8 0 0], qiC 0 [qgN 8 0 0], qiC 0 [qgA 8], qiC 0 [qgA 8], zc19, qiC 0 [qgN 6 0 0], qiC 0 [qgN 6 0 0], qiC 0 [qgN 6 0 0], qiC 0 [qgN 6 0 0], zc64, qiC 0 [qgN 4 100 100], zc20, qiC 2 [qgN 60 0 0], qiC 0 [qgN 60 0 0], qjC 1 1000000060, zc21, qiC 0 [qgN 8 0 0], qiC 0 [qgN 8 0 0], qiC 0 [qgN 8 0 0], qiC 0 [qgN 8 0 0], qiC 0 [qgN 8 0 0], qiC 0 [qgN 10 0 0], qiC 0 [qgN 4 0 0], qiC 0 [qgN 4 0 0], zc65, zc38, zc39, qiC 0 [qgN 12 0 0], zc40, qiC 0 [qgN 12 0 0], zc41, qiC 0 [qgN 12 0 0], zc24, qiC 0 [qgN 12 0 0], zc42, qiC 0 [qgN 32 0 0], qiC 0 [qgN 8 0 0], qiC 0 [qgN 8 0 0], qiC 0 [qgN 2 0 0], qiC 0 [qgN 6 0 0], zc26, qjC 1 1000000006, qjC 1 1000000004, qrC 6 [none, none], qrC 7 [none, none]]
noncomputable def c24_0 : Ct := (24, 2, (5, [qtA 0, qtA 1, qtA 2, qtA 3, qtN 4 0 1001], [], [qvR 0, qvS 0, qvS 1, qvS 2], zh73, []),
  [((5, [(0, (.negSucc 2147483647), (.negSucc 0))], [], [qvK (.negSucc 1)], zh73, []), 0, 0),
   ((5, [qtN 0 8 2147483647], [], [qvK (.negSucc 1)], zh73, []), 0, 0),
   ((5, [qtN 0 0 7, (1, (.negSucc 2147483647), (.negSucc 0))], [], [qvK (.negSucc 1)], zh73, []), 0, 0),
   ((5, [qtN 0 0 7, qtN 1 2 2147483647], [], [qvK (.negSucc 1)], zh73, []), 0, 0),
   ((5, [qtN 0 0 7, qtN 1 0 1, (2, (.negSucc 2147483647), (.negSucc 0))], [], [qvK (.negSucc 1)], zh73, []), 0, 0),
   ((5, [qtN 0 0 7, qtN 1 0 1, qtN 2 100001 2147483647], [], [qvK (.negSucc 1)], zh73, []), 0, 0),
   ((5, [qtN 0 0 7, qtN 1 0 1, qtN 2 0 100000], [], [qvK (.ofNat 1)], zh73, []), 0, 0)])
noncomputable def c24_0_e : List Ct := [c12_11, c12_4, c12_5]
noncomputable def c24_0_pts : List PE := []
set_option maxRecDepth 100000 in
theorem c24_0_k : enCtF c24_0 c24_0_e (pkP (c24_0_pts ++ []) []) (none) noH 3000 = true := by decide +kernel
set_option maxRecDepth 100000 in
theorem c24_0_v : ValidC PPk c24_0 := ct_ok fpk noH_ok (d := 1) (ext := []) (pts := c24_0_pts) (env := c24_0_e) rfl (List.forall_mem_cons.mpr ⟨⟨c12_11_v, Nat.le_of_ble_eq_true rfl⟩, List.forall_mem_cons.mpr ⟨⟨c12_4_v, Nat.le_of_ble_eq_true rfl⟩, List.forall_mem_cons.mpr ⟨⟨c12_5_v, Nat.le_of_ble_eq_true rfl⟩, fun _ h => (by cases h)⟩⟩⟩) ext_nil (fun q h => (by cases h)) (enF c24_0_k) (fun _ h => (by cases h))

noncomputable def c145_11 : Ct := (145, 1, (1, [qtA 0], [], [qvS 0, qvK (.ofNat 0), qvK (.ofNat 100000)], [], []),
  [((1, [(0, (.negSucc 2147483647), (.negSucc 0))], [], [qvK (.ofNat 0)], [], []), 0, 0),
   ((1, [qtN 0 100001 2147483647], [], [qvK (.ofNat 0)], [], []), 0, 0),
   ((1, [qtN 0 0 100000], [], [qvK (.ofNat 1)], [], []), 0, 0)])
noncomputable def c145_11_e : List Ct := []
noncomputable def c145_11_pts : List PE := []
set_option maxRecDepth 100000 in
theorem c145_11_k : enCtF c145_11 c145_11_e (pkP (c145_11_pts ++ []) []) (none) noH 3000 = true := by decide +kernel
set_option maxRecDepth 100000 in
theorem c145_11_v : ValidC PPk c145_11 := ct_ok fpk noH_ok (d := 0) (ext := []) (pts := c145_11_pts) (env := c145_11_e) rfl (fun _ h => (by cases h)) ext_nil (fun q h => (by cases h)) (enF c145_11_k) (fun _ h => (by cases h))

noncomputable def zh74 : AH := [zc27, qiC 0 [qgN 1 3 3, qgN 7 0 0, qgN 1 3 3, qgN 1 5 5, qgN 7 0 0, qgN 1 100 100, qgN 2 0 0, .inr (1, (.negSucc 0), (.negSucc 0)), qgN 21 0 0, qgN 1 1 1, qgN 39 0 0, qgN 1 1 1, qgN 39 0 0, qgN 1 1 1, qgN 39 0 0, qgN 1 1 1, qgN 553 0 0, qgA 32, qgN 36 0 0, .inr (1, (.negSucc 99), (.negSucc 99)), qgN 1 100 100, .inr (1, (.negSucc 99), (.negSucc 99)), qgN 1 100 100, .inr (1, (.negSucc 99), (.negSucc 99)), qgN 1 100 100, .inr (1, (.negSucc 99), (.negSucc 99)), qgN 1 100 100, qgN 118 0 0], qiC 0 [qgN 1820 0 0], qiC 3 [qgN 2 0 0], qiC 0 [qgN 70 0 0], qiC 0 [qgN 70 0 0], qiC 0 [qgN 70 0 0], qjC 1 1000000070, qjC 1 1000000008, qiC 0 [qgN 910 0 0], qiC 0 [qgN 910 0 0], qiC 0 [qgN 20 0 0], qiC 0 [qgN 20 0 0], qiC 0 [qgN 910 0 0], qjC 1 1000000004]
noncomputable def c152_0 : Ct := (152, 2, (3, [qtA 0, qtA 1, qtA 2], [], [qvR 0, qvS 0, qvS 1, qvS 2], zh74, []),
  [((3, [(0, (.negSucc 2147483647), (.negSucc 0))], [], [qvK (.negSucc 1)], zh74, []), 0, 0),
   ((3, [qtN 0 8 2147483647], [], [qvK (.negSucc 1)], zh74, []), 0, 0),
   ((3, [qtN 0 0 7, (1, (.negSucc 2147483647), (.negSucc 0))], [], [qvK (.negSucc 1)], zh74, []), 0, 0),
   ((3, [qtN 0 0 7, qtN 1 2 2147483647], [], [qvK (.negSucc 1)], zh74, []), 0, 0),
   ((3, [qtN 0 0 7, qtN 1 0 1, (2, (.negSucc 2147483647), (.negSucc 0))], [], [qvK (.negSucc 1)], zh74, []), 0, 0),
   ((3, [qtN 0 0 7, qtN 1 0 1, qtN 2 100001 2147483647], [], [qvK (.negSucc 1)], zh74, []), 0, 0),
   ((3, [qtN 0 0 7, qtN 1 0 1, qtN 2 0 100000], [], [qvK (.ofNat 1)], zh74, []), 0, 0)])
noncomputable def c152_0_e : List Ct := [c145_11, c145_4, c145_5]
noncomputable def c152_0_pts : List PE := []
set_option maxRecDepth 100000 in
theorem c152_0_k : enCtF c152_0 c152_0_e (pkP (c152_0_pts ++ []) []) (none) noH 3000 = true := by decide +kernel
set_option maxRecDepth 100000 in
theorem c152_0_v : ValidC PPk c152_0 := ct_ok fpk noH_ok (d := 1) (ext := []) (pts := c152_0_pts) (env := c152_0_e) rfl (List.forall_mem_cons.mpr ⟨⟨c145_11_v, Nat.le_of_ble_eq_true rfl⟩, List.forall_mem_cons.mpr ⟨⟨c145_4_v, Nat.le_of_ble_eq_true rfl⟩, List.forall_mem_cons.mpr ⟨⟨c145_5_v, Nat.le_of_ble_eq_true rfl⟩, fun _ h => (by cases h)⟩⟩⟩) ext_nil (fun q h => (by cases h)) (enF c152_0_k) (fun _ h => (by cases h))

noncomputable def c12_12 : Ct := (12, 1, (1, [qtA 0], [], [qvS 0, qvK (.ofNat 1), qvK (.ofNat 50)], [], []),
  [((1, [(0, (.negSucc 2147483647), (.ofNat 0))], [], [qvK (.ofNat 0)], [], []), 0, 0),
   ((1, [qtN 0 51 2147483647], [], [qvK (.ofNat 0)], [], []), 0, 0),
   ((1, [qtN 0 1 50], [], [qvK (.ofNat 1)], [], []), 0, 0)])
noncomputable def c12_12_e : List Ct := []
noncomputable def c12_12_pts : List PE := []
set_option maxRecDepth 100000 in
theorem c12_12_k : enCtF c12_12 c12_12_e (pkP (c12_12_pts ++ []) []) (none) noH 3000 = true := by decide +kernel
set_option maxRecDepth 100000 in
theorem c12_12_v : ValidC PPk c12_12 := ct_ok fpk noH_ok (d := 0) (ext := []) (pts := c12_12_pts) (env := c12_12_e) rfl (fun _ h => (by cases h)) ext_nil (fun q h => (by cases h)) (enF c12_12_k) (fun _ h => (by cases h))

noncomputable def c25_0 : Ct := (25, 2, (2, [qtA 0, qtA 1], [], [qvR 0, qvS 0, qvS 1], zh43, []),
  [((2, [(0, (.negSucc 2147483647), (.ofNat 0))], [], [qvK (.negSucc 1)], zh43, []), 0, 0),
   ((2, [qtN 0 21 2147483647], [], [qvK (.negSucc 1)], zh43, []), 0, 0),
   ((2, [qtN 0 1 20, (1, (.negSucc 2147483647), (.ofNat 0))], [], [qvK (.negSucc 1)], zh43, []), 0, 0),
   ((2, [qtN 0 1 20, qtN 1 51 2147483647], [], [qvK (.negSucc 1)], zh43, []), 0, 0),
   ((2, [qtN 0 1 20, qtN 1 1 50], [], [qvK (.ofNat 1)], [zc23, qoC 1 [qvK (.ofNat 3), qvR 2, qvR 13, qvR 19, qvR 20, qvS 0, qvS 1, qvR 21, qvK (.ofNat 100), qvK (.ofNat 0), qvR 26, qvR 27, qvR 28, qvR 32, qvK (.ofNat 0), qvR 38, qvR 39, qvR 40], qrC 4 [some 3, some 8], zc16, qiC 0 [qgN 60 0 0], qiC 0 [qgN 60 0 0], qiC 0 [qgN 60 0 0], qiC 0 [qgN 60 0 0], zc17, qiC 0 [qgN 60 0 0], qiC 0 [qgN 60 0 0], qiC 0 [qgN 60 0 0], qiC 0 [qgN 60 0 0], zc18, qiC 0 [qgN 6 0 0], qiC 0 [qgN 6 0 0], qiC 0 [qgN 8 0 0], qiC 0 [qgN 8 0 0], qiC 0 [qgN 8 0 0], qiC 0 [qgN 8 0 0], qiC 0 [qgN 8 0 0], zc19, qiC 0 [qgN 6 0 0], qiC 0 [qgN 6 0 0], qiC 0 [qgN 6 0 0], qiC 0 [qgN 6 0 0], zc9, zc10, zc20, qiC 2 [qgN 60 0 0], qiC 0 [qgN 60 0 0], qjC 1 1000000060, zc21, qiC 0 [qgN 8 0 0], qiC 0 [qgN 8 0 0], qiC 0 [qgN 8 0 0], qiC 0 [qgN 8 0 0], qiC 0 [qgN 8 0 0], qiC 0 [qgN 10 0 0], qiC 0 [qgN 4 0 0], qiC 0 [qgN 4 0 0], zc37, zc38, zc39, qiC 0 [qgN 12 0 0], zc40, qiC 0 [qgN 12 0 0], zc41, qiC 0 [qgN 12 0 0], zc24, qiC 0 [qgN 12 0 0], zc42, qiC 0 [qgN 32 0 0], qiC 0 [qgN 8 0 0], qiC 0 [qgN 8 0 0], qiC 0 [qgN 2 0 0], qiC 0 [qgN 6 0 0], zc26, qjC 1 1000000006, qjC 1 1000000004, qrC 6 [none, none], qrC 7 [none, none]], []), 0, 0)])
noncomputable def c25_0_e : List Ct := [c12_12, c12_3]
noncomputable def c25_0_pts : List PE := []
set_option maxRecDepth 100000 in
theorem c25_0_k : enCtF c25_0 c25_0_e (pkP (c25_0_pts ++ []) []) (none) noH 3000 = true := by decide +kernel
set_option maxRecDepth 100000 in
theorem c25_0_v : ValidC PPk c25_0 := ct_ok fpk noH_ok (d := 1) (ext := []) (pts := c25_0_pts) (env := c25_0_e) rfl (List.forall_mem_cons.mpr ⟨⟨c12_12_v, Nat.le_of_ble_eq_true rfl⟩, List.forall_mem_cons.mpr ⟨⟨c12_3_v, Nat.le_of_ble_eq_true rfl⟩, fun _ h => (by cases h)⟩⟩) ext_nil (fun q h => (by cases h)) (enF c25_0_k) (fun _ h => (by cases h))

noncomputable def c145_12 : Ct := (145, 1, (1, [qtA 0], [], [qvS 0, qvK (.ofNat 1), qvK (.ofNat 50)], [], []),
  [((1, [(0, (.negSucc 2147483647), (.ofNat 0))], [], [qvK (.ofNat 0)], [], []), 0, 0),
   ((1, [qtN 0 51 2147483647], [], [qvK (.ofNat 0)], [], []), 0, 0),
   ((1, [qtN 0 1 50], [], [qvK (.ofNat 1)], [], []), 0, 0)])
noncomputable def c145_12_e : List Ct := []
noncomputable def c145_12_pts : List PE := []
set_option maxRecDepth 100000 in
theorem c145_12_k : enCtF c145_12 c145_12_e (pkP (c145_12_pts ++ []) []) (none) noH 3000 = true := by decide +kernel
set_option maxRecDepth 100000 in
theorem c145_12_v : ValidC PPk c145_12 := ct_ok fpk noH_ok (d := 0) (ext := []) (pts := c145_12_pts) (env := c145_12_e) rfl (fun _ h => (by cases h)) ext_nil (fun q h => (by cases h)) (enF c145_12_k) (fun _ h => (by cases h))

noncomputable def c153_0 : Ct := (153, 2, (2, [qtA 0, qtA 1], [], [qvR 0, qvS 0, qvS 1], zh29, []),
  [((2, [(0, (.negSucc 2147483647), (.ofNat 0))], [], [qvK (.negSucc 1)], zh29, []), 0, 0),
   ((2, [qtN 0 21 2147483647], [], [qvK (.negSucc 1)], zh29, []), 0, 0),
   ((2, [qtN 0 1 20, (1, (.negSucc 2147483647), (.ofNat 0))], [], [qvK (.negSucc 1)], zh29, []), 0, 0),
   ((2, [qtN 0 1 20, qtN 1 51 2147483647], [], [qvK (.negSucc 1)], zh29, []), 0, 0),
   ((2, [qtN 0 1 20, qtN 1 1 50], [], [qvK (.ofNat 1)], [zc27, qiC 0 [qgN 0 0 0, .inl ((.ofNat 3), []), qgN 7 0 0, qgS 0, qgN 0 0 0, qgS 1, qgN 7 0 0, .inl ((.ofNat 100), []), qgN 2 0 0, .inl ((.negSucc 0), []), qgN 21 0 0, .inl ((.ofNat 1), []), qgN 39 0 0, .inl ((.ofNat 1), []), qgN 39 0 0, .inl ((.ofNat 1), []), qgN 39 0 0, .inl ((.ofNat 1), []), qgN 621 0 0, .inl ((.negSucc 99), []), qgN 0 0 0, .inl ((.ofNat 100), []), qgN 0 0 0, .inl ((.negSucc 99), []), qgN 0 0 0, .inl ((.ofNat 100), []), qgN 0 0 0, .inl ((.negSucc 99), []), qgN 0 0 0, .inl ((.ofNat 100), []), qgN 0 0 0, .inl ((.negSucc 99), []), qgN 0 0 0, .inl ((.ofNat 100), []), qgN 118 0 0], qiC 0 [qgN 1820 0 0], qiC 3 [qgN 2 0 0], qiC 0 [qgN 70 0 0], qiC 0 [qgN 70 0 0], qiC 0 [qgN 70 0 0], qjC 1 1000000070, qjC 1 1000000008, qiC 0 [qgN 910 0 0], qiC 0 [qgN 910 0 0], qiC 0 [qgN 20 0 0], qiC 0 [qgN 20 0 0], qiC 0 [qgN 910 0 0], qjC 1 1000000004], []), 0, 0)])
noncomputable def c153_0_e : List Ct := [c145_12, c145_3]
noncomputable def c153_0_pts : List PE := []
set_option maxRecDepth 100000 in
theorem c153_0_k : enCtF c153_0 c153_0_e (pkP (c153_0_pts ++ []) []) (none) noH 3000 = true := by decide +kernel
set_option maxRecDepth 100000 in
theorem c153_0_v : ValidC PPk c153_0 := ct_ok fpk noH_ok (d := 1) (ext := []) (pts := c153_0_pts) (env := c153_0_e) rfl (List.forall_mem_cons.mpr ⟨⟨c145_12_v, Nat.le_of_ble_eq_true rfl⟩, List.forall_mem_cons.mpr ⟨⟨c145_3_v, Nat.le_of_ble_eq_true rfl⟩, fun _ h => (by cases h)⟩⟩) ext_nil (fun q h => (by cases h)) (enF c153_0_k) (fun _ h => (by cases h))

noncomputable def c12_13 : Ct := (12, 1, (1, [qtA 0], [], [qvS 0, qvK (.negSucc 999), qvK (.ofNat 1000)], [], []),
  [((1, [(0, (.negSucc 2147483647), (.negSucc 1000))], [], [qvK (.ofNat 0)], [], []), 0, 0),
   ((1, [qtN 0 1001 2147483647], [], [qvK (.ofNat 0)], [], []), 0, 0),
   ((1, [(0, (.negSucc 999), (.ofNat 1000))], [], [qvK (.ofNat 1)], [], []), 0, 0)])
noncomputable def c12_13_e : List Ct := []
noncomputable def c12_13_pts : List PE := []
set_option maxRecDepth 100000 in
theorem c12_13_k : enCtF c12_13 c12_13_e (pkP (c12_13_pts ++ []) []) (none) noH 3000 = true := by decide +kernel
set_option maxRecDepth 100000 in
theorem c12_13_v : ValidC PPk c12_13 := ct_ok fpk noH_ok (d := 0) (ext := []) (pts := c12_13_pts) (env := c12_13_e) rfl (fun _ h => (by cases h)) ext_nil (fun q h => (by cases h)) (enF c12_13_k) (fun _ h => (by cases h))

noncomputable def c12_14 : Ct := (12, 1, (1, [qtA 0], [], [qvS 0, qvK (.negSucc 99), qvK (.ofNat 100)], [], []),
  [((1, [(0, (.negSucc 2147483647), (.negSucc 100))], [], [qvK (.ofNat 0)], [], []), 0, 0),
   ((1, [qtN 0 101 2147483647], [], [qvK (.ofNat 0)], [], []), 0, 0),
   ((1, [(0, (.negSucc 99), (.ofNat 100))], [], [qvK (.ofNat 1)], [], []), 0, 0)])
noncomputable def c12_14_e : List Ct := []
noncomputable def c12_14_pts : List PE := []
set_option maxRecDepth 100000 in
theorem c12_14_k : enCtF c12_14 c12_14_e (pkP (c12_14_pts ++ []) []) (none) noH 3000 = true := by decide +kernel
set_option maxRecDepth 100000 in
theorem c12_14_v : ValidC PPk c12_14 := ct_ok fpk noH_ok (d := 0) (ext := []) (pts := c12_14_pts) (env := c12_14_e) rfl (fun _ h => (by cases h)) ext_nil (fun q h => (by cases h)) (enF c12_14_k) (fun _ h => (by cases h))

noncomputable def c12_15 : Ct := (12, 1, (1, [qtA 0], [], [qvS 0, qvK (.ofNat 0), qvK (.ofNat 1000)], [], []),
  [((1, [(0, (.negSucc 2147483647), (.negSucc 0))], [], [qvK (.ofNat 0)], [], []), 0, 0),
   ((1, [qtN 0 1001 2147483647], [], [qvK (.ofNat 0)], [], []), 0, 0),
   ((1, [qtN 0 0 1000], [], [qvK (.ofNat 1)], [], []), 0, 0)])
noncomputable def c12_15_e : List Ct := []
noncomputable def c12_15_pts : List PE := []
set_option maxRecDepth 100000 in
theorem c12_15_k : enCtF c12_15 c12_15_e (pkP (c12_15_pts ++ []) []) (none) noH 3000 = true := by decide +kernel
set_option maxRecDepth 100000 in
theorem c12_15_v : ValidC PPk c12_15 := ct_ok fpk noH_ok (d := 0) (ext := []) (pts := c12_15_pts) (env := c12_15_e) rfl (fun _ h => (by cases h)) ext_nil (fun q h => (by cases h)) (enF c12_15_k) (fun _ h => (by cases h))

noncomputable def zc75 : AC := qiC 0 [qgN 0 0 0, qgS 0, qgN 5 0 0]
noncomputable def zc76 : AC := qiC 0 [qgN 0 0 0, qgS 1, qgN 5 0 0]
noncomputable def zc77 : AC := qiC 0 [qgN 0 0 0, qgS 2, qgN 5 0 0]
noncomputable def zc78 : AC := qiC 0 [qgN 0 0 0, qgS 3, qgN 5 0 0]
noncomputable def c27_0 : Ct := (27, 1, (4, [qtA 0, qtA 1, qtA 2, qtA 3], [], [qvR 0, qvS 0, qvS 1, qvS 2, qvS 3], zh2, []),
  [((4, [], [], [], [qoC 4 [qvK (.ofNat 1), qvR 1, qvR 2, qvR 3, qvR 4], zc75, zc76, zc77, zc78], []), 0, 0)])
noncomputable def c27_0_e : List Ct := []
noncomputable def c27_0_pts : List PE := []
set_option maxRecDepth 100000 in
theorem c27_0_k : enCtF c27_0 c27_0_e (pkP (c27_0_pts ++ []) []) (none) noH 3000 = true := by decide +kernel
set_option maxRecDepth 100000 in
theorem c27_0_v : ValidC PPk c27_0 := ct_ok fpk noH_ok (d := 0) (ext := []) (pts := c27_0_pts) (env := c27_0_e) rfl (fun _ h => (by cases h)) ext_nil (fun q h => (by cases h)) (enF c27_0_k) (fun _ h => (by cases h))

noncomputable def c26_0 : Ct := (26, 2, (4, [qtA 0, qtA 1, qtA 2, qtA 3], [], [qvR 0, qvS 0, qvS 1, qvS 2, qvS 3], zh43, []),
  [((4, [(0, (.negSucc 2147483647), (.negSucc 0))], [], [qvK (.negSucc 1)], zh43, []), 0, 0),
   ((4, [qtN 0 2 2147483647], [], [qvK (.negSucc 1)], zh43, []), 0, 0),
   ((4, [qtN 0 0 1, (1, (.negSucc 2147483647), (.negSucc 1000))], [], [qvK (.negSucc 1)], zh43, []), 0, 0),
   ((4, [qtN 0 0 1, qtN 1 1001 2147483647], [], [qvK (.negSucc 1)], zh43, []), 0, 0),
   ((4, [qtN 0 0 1, (1, (.negSucc 999), (.ofNat 1000)), (2, (.negSucc 2147483647), (.negSucc 100))], [], [qvK (.negSucc 1)], zh43, []), 0, 0),
   ((4, [qtN 0 0 1, (1, (.negSucc 999), (.ofNat 1000)), qtN 2 101 2147483647], [], [qvK (.negSucc 1)], zh43, []), 0, 0),
   ((4, [qtN 0 0 1, (1, (.negSucc 999), (.ofNat 1000)), (2, (.negSucc 99), (.ofNat 100)), (3, (.negSucc 2147483647), (.negSucc 0))], [], [qvK (.negSucc 1)], zh43, []), 0, 0),
   ((4, [qtN 0 0 1, (1, (.negSucc 999), (.ofNat 1000)), (2, (.negSucc 99), (.ofNat 100)), qtN 3 1001 2147483647], [], [qvK (.negSucc 1)], zh43, []), 0, 0),
   ((4, [qtN 0 0 1, (1, (.negSucc 999), (.ofNat 1000)), (2, (.negSucc 99), (.ofNat 100)), qtN 3 0 1000], [], [qvK (.ofNat 0)], [zc23, zc15, qrC 4 [some 3, some 8], zc16, qiC 0 [qgN 60 0 0], qiC 0 [qgN 60 0 0], qiC 0 [qgN 60 0 0], qiC 0 [qgN 60 0 0], zc17, qiC 0 [qgN 60 0 0], qiC 0 [qgN 60 0 0], qiC 0 [qgN 60 0 0], qiC 0 [qgN 60 0 0], zc18, qiC 0 [qgN 6 0 0], qiC 0 [qgN 6 0 0], qiC 0 [qgN 8 0 0], qiC 0 [qgN 8 0 0], qiC 0 [qgN 8 0 0], qiC 0 [qgN 8 0 0], qiC 0 [qgN 8 0 0], qoC 4 [qvK (.ofNat 1), qvR 22, qvR 23, qvR 24, qvR 25], zc75, zc76, zc77, zc78, zc9, zc10, zc20, qiC 2 [qgN 60 0 0], qiC 0 [qgN 60 0 0], qjC 1 1000000060, zc21, qiC 0 [qgN 8 0 0], qiC 0 [qgN 8 0 0], qiC 0 [qgN 8 0 0], qiC 0 [qgN 8 0 0], qiC 0 [qgN 8 0 0], qiC 0 [qgN 10 0 0], qiC 0 [qgN 4 0 0], qiC 0 [qgN 4 0 0], zc37, zc38, zc39, qiC 0 [qgN 12 0 0], zc40, qiC 0 [qgN 12 0 0], zc41, qiC 0 [qgN 12 0 0], zc24, qiC 0 [qgN 12 0 0], zc42, qiC 0 [qgN 32 0 0], qiC 0 [qgN 8 0 0], qiC 0 [qgN 8 0 0], qiC 0 [qgN 2 0 0], qiC 0 [qgN 6 0 0], zc26, qjC 1 1000000006, qjC 1 1000000004, qrC 6 [none, none], qrC 7 [none, none]], []), 0, 0)])
noncomputable def c26_0_e : List Ct := [c12_13, c12_14, c12_15, c12_4, c27_0]
noncomputable def c26_0_pts : List PE := []
set_option maxRecDepth 100000 in
theorem c26_0_k : enCtF c26_0 c26_0_e (pkP (c26_0_pts ++ []) []) (none) noH 3000 = true := by decide +kernel
set_option maxRecDepth 100000 in
theorem c26_0_v : ValidC PPk c26_0 := ct_ok fpk noH_ok (d := 1) (ext := []) (pts := c26_0_pts) (env := c26_0_e) rfl (List.forall_mem_cons.mpr ⟨⟨c12_13_v, Nat.le_of_ble_eq_true rfl⟩, List.forall_mem_cons.mpr ⟨⟨c12_14_v, Nat.le_of_ble_eq_true rfl⟩, List.forall_mem_cons.mpr ⟨⟨c12_15_v, Nat.le_of_ble_eq_true rfl⟩, List.forall_mem_cons.mpr ⟨⟨c12_4_v, Nat.le_of_ble_eq_true rfl⟩, List.forall_mem_cons.mpr ⟨⟨c27_0_v, Nat.le_of_ble_eq_true rfl⟩, fun _ h => (by cases h)⟩⟩⟩⟩⟩) ext_nil (fun q h => (by cases h)) (enF c26_0_k) (fun _ h => (by cases h))

noncomputable def c145_13 : Ct := (145, 1, (1, [qtA 0], [], [qvS 0, qvK (.negSucc 999), qvK (.ofNat 1000)], [], []),
  [((1, [(0, (.negSucc 2147483647), (.negSucc 1000))], [], [qvK (.ofNat 0)], [], []), 0, 0),
   ((1, [qtN 0 1001 2147483647], [], [qvK (.ofNat 0)], [], []), 0, 0),
   ((1, [(0, (.negSucc 999), (.ofNat 1000))], [], [qvK (.ofNat 1)], [], []), 0, 0)])
noncomputable def c145_13_e : List Ct := []
noncomputable def c145_13_pts : List PE := []
set_option maxRecDepth 100000 in
theorem c145_13_k : enCtF c145_13 c145_13_e (pkP (c145_13_pts ++ []) []) (none) noH 3000 = true := by decide +kernel
set_option maxRecDepth 100000 in
theorem c145_13_v : ValidC PPk c145_13 := ct_ok fpk noH_ok (d := 0) (ext := []) (pts := c145_13_pts) (env := c145_13_e) rfl (fun _ h => (by cases h)) ext_nil (fun q h => (by cases h)) (enF c145_13_k) (fun _ h => (by cases h))

noncomputable def c145_14 : Ct := (145, 1, (1, [qtA 0], [], [qvS 0, qvK (.negSucc 99), qvK (.ofNat 100)], [], []),
  [((1, [(0, (.negSucc 2147483647), (.negSucc 100))], [], [qvK (.ofNat 0)], [], []), 0, 0),
   ((1, [qtN 0 101 2147483647], [], [qvK (.ofNat 0)], [], []), 0, 0),
   ((1, [(0, (.negSucc 99), (.ofNat 100))], [], [qvK (.ofNat 1)], [], []), 0, 0)])
noncomputable def c145_14_e : List Ct := []
noncomputable def c145_14_pts : List PE := []
set_option maxRecDepth 100000 in
theorem c145_14_k : enCtF c145_14 c145_14_e (pkP (c145_14_pts ++ []) []) (none) noH 3000 = true := by decide +kernel
set_option maxRecDepth 100000 in
theorem c145_14_v : ValidC PPk c145_14 := ct_ok fpk noH_ok (d := 0) (ext := []) (pts := c145_14_pts) (env := c145_14_e) rfl (fun _ h => (by cases h)) ext_nil (fun q h => (by cases h)) (enF c145_14_k) (fun _ h => (by cases h))

noncomputable def c145_15 : Ct := (145, 1, (1, [qtA 0], [], [qvS 0, qvK (.ofNat 0), qvK (.ofNat 1000)], [], []),
  [((1, [(0, (.negSucc 2147483647), (.negSucc 0))], [], [qvK (.ofNat 0)], [], []), 0, 0),
   ((1, [qtN 0 1001 2147483647], [], [qvK (.ofNat 0)], [], []), 0, 0),
   ((1, [qtN 0 0 1000], [], [qvK (.ofNat 1)], [], []), 0, 0)])
noncomputable def c145_15_e : List Ct := []
noncomputable def c145_15_pts : List PE := []
set_option maxRecDepth 100000 in
theorem c145_15_k : enCtF c145_15 c145_15_e (pkP (c145_15_pts ++ []) []) (none) noH 3000 = true := by decide +kernel
set_option maxRecDepth 100000 in
theorem c145_15_v : ValidC PPk c145_15 := ct_ok fpk noH_ok (d := 0) (ext := []) (pts := c145_15_pts) (env := c145_15_e) rfl (fun _ h => (by cases h)) ext_nil (fun q h => (by cases h)) (enF c145_15_k) (fun _ h => (by cases h))

noncomputable def c154_0 : Ct := (154, 2, (4, [qtA 0, qtA 1, qtA 2, qtA 3], [], [qvR 0, qvS 0, qvS 1, qvS 2, qvS 3], zh29, []),
  [((4, [(0, (.negSucc 2147483647), (.negSucc 0))], [], [qvK (.negSucc 1)], zh29, []), 0, 0),
   ((4, [qtN 0 2 2147483647], [], [qvK (.negSucc 1)], zh29, []), 0, 0),
   ((4, [qtN 0 0 1, (1, (.negSucc 2147483647), (.negSucc 1000))], [], [qvK (.negSucc 1)], zh29, []), 0, 0),
   ((4, [qtN 0 0 1, qtN 1 1001 2147483647], [], [qvK (.negSucc 1)], zh29, []), 0, 0),
   ((4, [qtN 0 0 1, (1, (.negSucc 999), (.ofNat 1000)), (2, (.negSucc 2147483647), (.negSucc 100))], [], [qvK (.negSucc 1)], zh29, []), 0, 0),
   ((4, [qtN 0 0 1, (1, (.negSucc 999), (.ofNat 1000)), qtN 2 101 2147483647], [], [qvK (.negSucc 1)], zh29, []), 0, 0),
   ((4, [qtN 0 0 1, (1, (.negSucc 999), (.ofNat 1000)), (2, (.negSucc 99), (.ofNat 100)), (3, (.negSucc 2147483647), (.negSucc 0))], [], [qvK (.negSucc 1)], zh29, []), 0, 0),
   ((4, [qtN 0 0 1, (1, (.negSucc 999), (.ofNat 1000)), (2, (.negSucc 99), (.ofNat 100)), qtN 3 1001 2147483647], [], [qvK (.negSucc 1)], zh29, []), 0, 0),
   ((4, [qtN 0 0 1, (1, (.negSucc 999), (.ofNat 1000)), (2, (.negSucc 99), (.ofNat 100)), qtN 3 0 1000], [], [qvK (.ofNat 0)], [zc27, qiC 0 [qgN 0 0 0, .inl ((.ofNat 3), []), qgN 2 0 0, .inl ((.ofNat 1), []), qgN 4 0 0, .inl ((.ofNat 3), []), qgN 0 0 0, .inl ((.ofNat 5), []), qgN 7 0 0, .inl ((.ofNat 100), []), qgN 2 0 0, .inl ((.negSucc 0), []), qgN 21 0 0, .inl ((.ofNat 1), []), qgN 39 0 0, .inl ((.ofNat 1), []), qgN 39 0 0, .inl ((.ofNat 1), []), qgN 39 0 0, .inl ((.ofNat 1), []), qgN 585 0 0, qgS 0, qgN 0 0 0, qgS 1, qgN 0 0 0, qgS 2, qgN 0 0 0, qgS 3, qgN 32 0 0, .inl ((.negSucc 99), []), qgN 0 0 0, .inl ((.ofNat 100), []), qgN 0 0 0, .inl ((.negSucc 99), []), qgN 0 0 0, .inl ((.ofNat 100), []), qgN 0 0 0, .inl ((.negSucc 99), []), qgN 0 0 0, .inl ((.ofNat 100), []), qgN 0 0 0, .inl ((.negSucc 99), []), qgN 0 0 0, .inl ((.ofNat 100), []), qgN 118 0 0], qiC 0 [qgN 1820 0 0], qiC 3 [qgN 2 0 0], qiC 0 [qgN 70 0 0], qiC 0 [qgN 70 0 0], qiC 0 [qgN 70 0 0], qjC 1 1000000070, qjC 1 1000000008, qiC 0 [qgN 910 0 0], qiC 0 [qgN 910 0 0], qiC 0 [qgN 20 0 0], qiC 0 [qgN 20 0 0], qiC 0 [qgN 910 0 0], qjC 1 1000000004], []), 0, 0)])
noncomputable def c154_0_e : List Ct := [c145_13, c145_14, c145_15, c145_4]
noncomputable def c154_0_pts : List PE := []
set_option maxRecDepth 100000 in
theorem c154_0_k : enCtF c154_0 c154_0_e (pkP (c154_0_pts ++ []) []) (none) noH 3000 = true := by decide +kernel
set_option maxRecDepth 100000 in
theorem c154_0_v : ValidC PPk c154_0 := ct_ok fpk noH_ok (d := 1) (ext := []) (pts := c154_0_pts) (env := c154_0_e) rfl (List.forall_mem_cons.mpr ⟨⟨c145_13_v, Nat.le_of_ble_eq_true rfl⟩, List.forall_mem_cons.mpr ⟨⟨c145_14_v, Nat.le_of_ble_eq_true rfl⟩, List.forall_mem_cons.mpr ⟨⟨c145_15_v, Nat.le_of_ble_eq_true rfl⟩, List.forall_mem_cons.mpr ⟨⟨c145_4_v, Nat.le_of_ble_eq_true rfl⟩, fun _ h => (by cases h)⟩⟩⟩⟩) ext_nil (fun q h => (by cases h)) (enF c154_0_k) (fun _ h => (by cases h))

noncomputable def c12_16 : Ct := (12, 1, (1, [qtA 0], [], [qvS 0, qvK (.ofNat 0), qvK (.ofNat 1000000)], [], []),
  [((1, [(0, (.negSucc 2147483647), (.negSucc 0))], [], [qvK (.ofNat 0)], [], []), 0, 0),
   ((1, [qtN 0 1000001 2147483647], [], [qvK (.ofNat 0)], [], []), 0, 0),
   ((1, [qtN 0 0 1000000], [], [qvK (.ofNat 1)], [], []), 0, 0)])
noncomputable def c12_16_e : List Ct := []
noncomputable def c12_16_pts : List PE := []
set_option maxRecDepth 100000 in
theorem c12_16_k : enCtF c12_16 c12_16_e (pkP (c12_16_pts ++ []) []) (none) noH 3000 = true := by decide +kernel
set_option maxRecDepth 100000 in
theorem c12_16_v : ValidC PPk c12_16 := ct_ok fpk noH_ok (d := 0) (ext := []) (pts := c12_16_pts) (env := c12_16_e) rfl (fun _ h => (by cases h)) ext_nil (fun q h => (by cases h)) (enF c12_16_k) (fun _ h => (by cases h))

noncomputable def c12_17 : Ct := (12, 1, (1, [qtA 0], [], [qvS 0, qvK (.negSucc 999999), qvK (.ofNat 1000000)], [], []),
  [((1, [(0, (.negSucc 2147483647), (.negSucc 1000000))], [], [qvK (.ofNat 0)], [], []), 0, 0),
   ((1, [qtN 0 1000001 2147483647], [], [qvK (.ofNat 0)], [], []), 0, 0),
   ((1, [(0, (.negSucc 999999), (.ofNat 1000000))], [], [qvK (.ofNat 1)], [], []), 0, 0)])
noncomputable def c12_17_e : List Ct := []
noncomputable def c12_17_pts : List PE := []
set_option maxRecDepth 100000 in
theorem c12_17_k : enCtF c12_17 c12_17_e (pkP (c12_17_pts ++ []) []) (none) noH 3000 = true := by decide +kernel
set_option maxRecDepth 100000 in
theorem c12_17_v : ValidC PPk c12_17 := ct_ok fpk noH_ok (d := 0) (ext := []) (pts := c12_17_pts) (env := c12_17_e) rfl (fun _ h => (by cases h)) ext_nil (fun q h => (by cases h)) (enF c12_17_k) (fun _ h => (by cases h))

noncomputable def c28_0 : Ct := (28, 2, (2, [qtA 0, qtA 1], [], [qvR 0, qvS 0, qvS 1], zh43, []),
  [((2, [(0, (.negSucc 2147483647), (.negSucc 0))], [], [qvK (.negSucc 1)], zh43, []), 0, 0),
   ((2, [qtN 0 1000001 2147483647], [], [qvK (.negSucc 1)], zh43, []), 0, 0),
   ((2, [qtN 0 0 1000000, (1, (.negSucc 2147483647), (.negSucc 1000000))], [], [qvK (.negSucc 1)], zh43, []), 0, 0),
   ((2, [qtN 0 0 1000000, qtN 1 1000001 2147483647], [], [qvK (.negSucc 1)], zh43, []), 0, 0),
   ((2, [qtN 0 0 1000000, (1, (.negSucc 999999), (.ofNat 1000000))], [], [qvK (.ofNat 1)], [zc23, zc15, qrC 4 [some 3, some 8], zc16, qiC 0 [qgN 60 0 0], qiC 0 [qgN 60 0 0], qiC 0 [qgN 60 0 0], qiC 0 [qgN 60 0 0], zc17, qiC 0 [qgN 60 0 0], qiC 0 [qgN 60 0 0], qiC 0 [qgN 60 0 0], qiC 0 [qgN 60 0 0], zc18, qiC 0 [qgN 6 0 0], qiC 0 [qgN 6 0 0], qiC 0 [qgN 8 0 0], qiC 0 [qgN 8 0 0], qiC 0 [qgN 8 0 0], qiC 0 [qgN 8 0 0], qiC 0 [qgN 8 0 0], zc19, qiC 0 [qgN 6 0 0], qiC 0 [qgN 6 0 0], qiC 0 [qgN 6 0 0], qiC 0 [qgN 6 0 0], zc9, zc10, zc20, qiC 2 [qgN 60 0 0], qiC 0 [qgN 60 0 0], qjC 1 1000000060, zc21, qiC 0 [qgN 8 0 0], qiC 0 [qgN 8 0 0], qiC 0 [qgN 8 0 0], qiC 0 [qgN 8 0 0], qiC 0 [qgN 8 0 0], qiC 0 [qgN 10 0 0], qiC 0 [qgN 4 0 0], qiC 0 [qgN 4 0 0], qoC 7 [qvR 42, qvK (.ofNat 7), qvR 51, qvR 55, qvR 56, qvK (.ofNat 0), qvS 0, qvS 1, qvK (.ofNat 0), qvK (.ofNat 0), qvK (.ofNat 0), qvK (.ofNat 0), qvK (.ofNat 0), qvK (.ofNat 0), qvK (.ofNat 0), qvK (.ofNat 0), qvK (.negSucc 0)], zc38, zc39, qiC 0 [qgN 12 0 0], zc40, qiC 0 [qgN 12 0 0], zc41, qiC 0 [qgN 12 0 0], zc24, qiC 0 [qgN 12 0 0], zc42, qiC 0 [qgN 32 0 0], qiC 0 [qgN 8 0 0], qiC 0 [qgN 8 0 0], qiC 0 [qgN 2 0 0], qiC 0 [qgN 6 0 0], zc26, qjC 1 1000000006, qjC 1 1000000004, qrC 6 [none, none], qrC 7 [none, none]], []), 0, 0)])
noncomputable def c28_0_e : List Ct := [c12_16, c12_17]
noncomputable def c28_0_pts : List PE := []
set_option maxRecDepth 100000 in
theorem c28_0_k : enCtF c28_0 c28_0_e (pkP (c28_0_pts ++ []) []) (none) noH 3000 = true := by decide +kernel
set_option maxRecDepth 100000 in
theorem c28_0_v : ValidC PPk c28_0 := ct_ok fpk noH_ok (d := 1) (ext := []) (pts := c28_0_pts) (env := c28_0_e) rfl (List.forall_mem_cons.mpr ⟨⟨c12_16_v, Nat.le_of_ble_eq_true rfl⟩, List.forall_mem_cons.mpr ⟨⟨c12_17_v, Nat.le_of_ble_eq_true rfl⟩, fun _ h => (by cases h)⟩⟩) ext_nil (fun q h => (by cases h)) (enF c28_0_k) (fun _ h => (by cases h))

noncomputable def c145_16 : Ct := (145, 1, (1, [qtA 0], [], [qvS 0, qvK (.ofNat 0), qvK (.ofNat 1000000)], [], []),
  [((1, [(0, (.negSucc 2147483647), (.negSucc 0))], [], [qvK (.ofNat 0)], [], []), 0, 0),
   ((1, [qtN 0 1000001 2147483647], [], [qvK (.ofNat 0)], [], []), 0, 0),
   ((1, [qtN 0 0 1000000], [], [qvK (.ofNat 1)], [], []), 0, 0)])
noncomputable def c145_16_e : List Ct := []
noncomputable def c145_16_pts : List PE := []
set_option maxRecDepth 100000 in
theorem c145_16_k : enCtF c145_16 c145_16_e (pkP (c145_16_pts ++ []) []) (none) noH 3000 = true := by decide +kernel
set_option maxRecDepth 100000 in
theorem c145_16_v : ValidC PPk c145_16 := ct_ok fpk noH_ok (d := 0) (ext := []) (pts := c145_16_pts) (env := c145_16_e) rfl (fun _ h => (by cases h)) ext_nil (fun q h => (by cases h)) (enF c145_16_k) (fun _ h => (by cases h))

noncomputable def c145_17 : Ct := (145, 1, (1, [qtA 0], [], [qvS 0, qvK (.negSucc 999999), qvK (.ofNat 1000000)], [], []),
  [((1, [(0, (.negSucc 2147483647), (.negSucc 1000000))], [], [qvK (.ofNat 0)], [], []), 0, 0),
   ((1, [qtN 0 1000001 2147483647], [], [qvK (.ofNat 0)], [], []), 0, 0),
   ((1, [(0, (.negSucc 999999), (.ofNat 1000000))], [], [qvK (.ofNat 1)], [], []), 0, 0)])
noncomputable def c145_17_e : List Ct := []
noncomputable def c145_17_pts : List PE := []
set_option maxRecDepth 100000 in
theorem c145_17_k : enCtF c145_17 c145_17_e (pkP (c145_17_pts ++ []) []) (none) noH 3000 = true := by decide +kernel
set_option maxRecDepth 100000 in
theorem c145_17_v : ValidC PPk c145_17 := ct_ok fpk noH_ok (d := 0) (ext := []) (pts := c145_17_pts) (env := c145_17_e) rfl (fun _ h => (by cases h)) ext_nil (fun q h => (by cases h)) (enF c145_17_k) (fun _ h => (by cases h))

noncomputable def c155_0 : Ct := (155, 2, (2, [qtA 0, qtA 1], [], [qvR 0, qvS 0, qvS 1], zh29, []),
  [((2, [(0, (.negSucc 2147483647), (.negSucc 0))], [], [qvK (.negSucc 1)], zh29, []), 0, 0),
   ((2, [qtN 0 1000001 2147483647], [], [qvK (.negSucc 1)], zh29, []), 0, 0),
   ((2, [qtN 0 0 1000000, (1, (.negSucc 2147483647), (.negSucc 1000000))], [], [qvK (.negSucc 1)], zh29, []), 0, 0),
   ((2, [qtN 0 0 1000000, qtN 1 1000001 2147483647], [], [qvK (.negSucc 1)], zh29, []), 0, 0),
   ((2, [qtN 0 0 1000000, (1, (.negSucc 999999), (.ofNat 1000000))], [], [qvK (.ofNat 1)], [zc27, qiC 0 [qgN 0 0 0, .inl ((.ofNat 3), []), qgN 7 0 0, .inl ((.ofNat 3), []), qgN 0 0 0, .inl ((.ofNat 5), []), qgN 0 0 0, qgS 0, qgN 0 0 0, qgS 1, qgN 5 0 0, .inl ((.ofNat 100), []), qgN 2 0 0, .inl ((.negSucc 0), []), qgN 21 0 0, .inl ((.ofNat 1), []), qgN 39 0 0, .inl ((.ofNat 1), []), qgN 39 0 0, .inl ((.ofNat 1), []), qgN 39 0 0, .inl ((.ofNat 1), []), qgN 621 0 0, .inl ((.negSucc 99), []), qgN 0 0 0, .inl ((.ofNat 100), []), qgN 0 0 0, .inl ((.negSucc 99), []), qgN 0 0 0, .inl ((.ofNat 100), []), qgN 0 0 0, .inl ((.negSucc 99), []), qgN 0 0 0, .inl ((.ofNat 100), []), qgN 0 0 0, .inl ((.negSucc 99), []), qgN 0 0 0, .inl ((.ofNat 100), []), qgN 118 0 0], qiC 0 [qgN 1820 0 0], qiC 3 [qgN 2 0 0], qiC 0 [qgN 70 0 0], qiC 0 [qgN 70 0 0], qiC 0 [qgN 70 0 0], qjC 1 1000000070, qjC 1 1000000008, qiC 0 [qgN 910 0 0], qiC 0 [qgN 910 0 0], qiC 0 [qgN 20 0 0], qiC 0 [qgN 20 0 0], qiC 0 [qgN 910 0 0], qjC 1 1000000004], []), 0, 0)])
noncomputable def c155_0_e : List Ct := [c145_16, c145_17]
noncomputable def c155_0_pts : List PE := []
set_option maxRecDepth 100000 in
theorem c155_0_k : enCtF c155_0 c155_0_e (pkP (c155_0_pts ++ []) []) (none) noH 3000 = true := by decide +kernel
set_option maxRecDepth 100000 in
theorem c155_0_v : ValidC PPk c155_0 := ct_ok fpk noH_ok (d := 1) (ext := []) (pts := c155_0_pts) (env := c155_0_e) rfl (List.forall_mem_cons.mpr ⟨⟨c145_16_v, Nat.le_of_ble_eq_true rfl⟩, List.forall_mem_cons.mpr ⟨⟨c145_17_v, Nat.le_of_ble_eq_true rfl⟩, fun _ h => (by cases h)⟩⟩) ext_nil (fun q h => (by cases h)) (enF c155_0_k) (fun _ h => (by cases h))

noncomputable def c12_18 : Ct := (12, 1, (1, [qtA 0], [], [qvS 0, qvK (.ofNat 1), qvK (.ofNat 1000)], [], []),
  [((1, [(0, (.negSucc 2147483647), (.ofNat 0))], [], [qvK (.ofNat 0)], [], []), 0, 0),
   ((1, [qtN 0 1001 2147483647], [], [qvK (.ofNat 0)], [], []), 0, 0),
   ((1, [qtN 0 1 1000], [], [qvK (.ofNat 1)], [], []), 0, 0)])
noncomputable def c12_18_e : List Ct := []
noncomputable def c12_18_pts : List PE := []
set_option maxRecDepth 100000 in
theorem c12_18_k : enCtF c12_18 c12_18_e (pkP (c12_18_pts ++ []) []) (none) noH 3000 = true := by decide +kernel
set_option maxRecDepth 100000 in
theorem c12_18_v : ValidC PPk c12_18 := ct_ok fpk noH_ok (d := 0) (ext := []) (pts := c12_18_pts) (env := c12_18_e) rfl (fun _ h => (by cases h)) ext_nil (fun q h => (by cases h)) (enF c12_18_k) (fun _ h => (by cases h))

noncomputable def c12_19 : Ct := (12, 1, (1, [qtA 0], [], [qvS 0, qvK (.ofNat 0), qvK (.ofNat 50)], [], []),
  [((1, [(0, (.negSucc 2147483647), (.negSucc 0))], [], [qvK (.ofNat 0)], [], []), 0, 0),
   ((1, [qtN 0 51 2147483647], [], [qvK (.ofNat 0)], [], []), 0, 0),
   ((1, [qtN 0 0 50], [], [qvK (.ofNat 1)], [], []), 0, 0)])
noncomputable def c12_19_e : List Ct := []
noncomputable def c12_19_pts : List PE := []
set_option maxRecDepth 100000 in
theorem c12_19_k : enCtF c12_19 c12_19_e (pkP (c12_19_pts ++ []) []) (none) noH 3000 = true := by decide +kernel
set_option maxRecDepth 100000 in
theorem c12_19_v : ValidC PPk c12_19 := ct_ok fpk noH_ok (d := 0) (ext := []) (pts := c12_19_pts) (env := c12_19_e) rfl (fun _ h => (by cases h)) ext_nil (fun q h => (by cases h)) (enF c12_19_k) (fun _ h => (by cases h))

noncomputable def c29_0 : Ct := (29, 2, (3, [qtA 0, qtA 1, qtA 2], [], [qvR 0, qvS 0, qvS 1, qvS 2], zh43, []),
  [((3, [(0, (.negSucc 2147483647), (.ofNat 0))], [], [qvK (.negSucc 1)], zh43, []), 0, 0),
   ((3, [qtN 0 1001 2147483647], [], [qvK (.negSucc 1)], zh43, []), 0, 0),
   ((3, [qtN 0 1 1000, (1, (.negSucc 2147483647), (.negSucc 0))], [], [qvK (.negSucc 1)], zh43, []), 0, 0),
   ((3, [qtN 0 1 1000, qtN 1 51 2147483647], [], [qvK (.negSucc 1)], zh43, []), 0, 0),
   ((3, [qtN 0 1 1000, qtN 1 0 50], [], [qvK (.ofNat 1)], [zc23, qoC 1 [qvK (.ofNat 3), qvR 2, qvR 13, qvR 19, qvR 20, qvK (.ofNat 3), qvK (.ofNat 5), qvR 21, qvS 0, qvS 1, qvR 26, qvR 27, qvR 28, qvR 32, qvK (.ofNat 0), qvR 38, qvR 39, qvR 40], qrC 4 [some 3, some 8], zc16, qiC 0 [qgN 60 0 0], qiC 0 [qgN 60 0 0], qiC 0 [qgN 60 0 0], qiC 0 [qgN 60 0 0], zc17, qiC 0 [qgN 60 0 0], qiC 0 [qgN 60 0 0], qiC 0 [qgN 60 0 0], qiC 0 [qgN 60 0 0], zc18, qiC 0 [qgN 6 0 0], qiC 0 [qgN 6 0 0], qiC 0 [qgN 8 0 0], qiC 0 [qgN 8 0 0], qiC 0 [qgN 8 0 0], qiC 0 [qgN 8 0 0], qiC 0 [qgN 8 0 0], zc19, qiC 0 [qgN 6 0 0], qiC 0 [qgN 6 0 0], qiC 0 [qgN 6 0 0], qiC 0 [qgN 6 0 0], zc9, zc10, zc20, qiC 2 [qgN 60 0 0], qiC 0 [qgN 60 0 0], qjC 1 1000000060, zc21, qiC 0 [qgN 8 0 0], qiC 0 [qgN 8 0 0], qiC 0 [qgN 8 0 0], qiC 0 [qgN 8 0 0], qiC 0 [qgN 8 0 0], qiC 0 [qgN 10 0 0], qiC 0 [qgN 4 0 0], qiC 0 [qgN 4 0 0], qoC 7 [qvR 42, qvK (.ofNat 7), qvR 51, qvR 55, qvR 56, qvK (.ofNat 0), qvK (.ofNat 0), qvK (.ofNat 0), qvS 2, qvK (.ofNat 0), qvK (.ofNat 0), qvK (.ofNat 0), qvK (.ofNat 0), qvK (.ofNat 0), qvK (.ofNat 0), qvK (.ofNat 0), qvK (.negSucc 0)], zc38, zc39, qiC 0 [qgN 12 0 0], zc40, qiC 0 [qgN 12 0 0], zc41, qiC 0 [qgN 12 0 0], zc24, qiC 0 [qgN 12 0 0], zc42, qiC 0 [qgN 32 0 0], qiC 0 [qgN 8 0 0], qiC 0 [qgN 8 0 0], qiC 0 [qgN 2 0 0], qiC 0 [qgN 6 0 0], zc26, qjC 1 1000000006, qjC 1 1000000004, qrC 6 [none, none], qrC 7 [none, none]], []), 0, 0)])
noncomputable def c29_0_e : List Ct := [c12_18, c12_19]
noncomputable def c29_0_pts : List PE := []
set_option maxRecDepth 100000 in
theorem c29_0_k : enCtF c29_0 c29_0_e (pkP (c29_0_pts ++ []) []) (none) noH 3000 = true := by decide +kernel
set_option maxRecDepth 100000 in
theorem c29_0_v : ValidC PPk c29_0 := ct_ok fpk noH_ok (d := 1) (ext := []) (pts := c29_0_pts) (env := c29_0_e) rfl (List.forall_mem_cons.mpr ⟨⟨c12_18_v, Nat.le_of_ble_eq_true rfl⟩, List.forall_mem_cons.mpr ⟨⟨c12_19_v, Nat.le_of_ble_eq_true rfl⟩, fun _ h => (by cases h)⟩⟩) ext_nil (fun q h => (by cases h)) (enF c29_0_k) (fun _ h => (by cases h))

noncomputable def c145_18 : Ct := (145, 1, (1, [qtA 0], [], [qvS 0, qvK (.ofNat 1), qvK (.ofNat 1000)], [], []),
  [((1, [(0, (.negSucc 2147483647), (.ofNat 0))], [], [qvK (.ofNat 0)], [], []), 0, 0),
   ((1, [qtN 0 1001 2147483647], [], [qvK (.ofNat 0)], [], []), 0, 0),
   ((1, [qtN 0 1 1000], [], [qvK (.ofNat 1)], [], []), 0, 0)])
noncomputable def c145_18_e : List Ct := []
noncomputable def c145_18_pts : List PE := []
set_option maxRecDepth 100000 in
theorem c145_18_k : enCtF c145_18 c145_18_e (pkP (c145_18_pts ++ []) []) (none) noH 3000 = true := by decide +kernel
set_option maxRecDepth 100000 in
theorem c145_18_v : ValidC PPk c145_18 := ct_ok fpk noH_ok (d := 0) (ext := []) (pts := c145_18_pts) (env := c145_18_e) rfl (fun _ h => (by cases h)) ext_nil (fun q h => (by cases h)) (enF c145_18_k) (fun _ h => (by cases h))

noncomputable def c145_19 : Ct := (145, 1, (1, [qtA 0], [], [qvS 0, qvK (.ofNat 0), qvK (.ofNat 50)], [], []),
  [((1, [(0, (.negSucc 2147483647), (.negSucc 0))], [], [qvK (.ofNat 0)], [], []), 0, 0),
   ((1, [qtN 0 51 2147483647], [], [qvK (.ofNat 0)], [], []), 0, 0),
   ((1, [qtN 0 0 50], [], [qvK (.ofNat 1)], [], []), 0, 0)])
noncomputable def c145_19_e : List Ct := []
noncomputable def c145_19_pts : List PE := []
set_option maxRecDepth 100000 in
theorem c145_19_k : enCtF c145_19 c145_19_e (pkP (c145_19_pts ++ []) []) (none) noH 3000 = true := by decide +kernel
set_option maxRecDepth 100000 in
theorem c145_19_v : ValidC PPk c145_19 := ct_ok fpk noH_ok (d := 0) (ext := []) (pts := c145_19_pts) (env := c145_19_e) rfl (fun _ h => (by cases h)) ext_nil (fun q h => (by cases h)) (enF c145_19_k) (fun _ h => (by cases h))

noncomputable def c156_0 : Ct := (156, 2, (3, [qtA 0, qtA 1, qtA 2], [], [qvR 0, qvS 0, qvS 1, qvS 2], zh29, []),
  [((3, [(0, (.negSucc 2147483647), (.ofNat 0))], [], [qvK (.negSucc 1)], zh29, []), 0, 0),
   ((3, [qtN 0 1001 2147483647], [], [qvK (.negSucc 1)], zh29, []), 0, 0),
   ((3, [qtN 0 1 1000, (1, (.negSucc 2147483647), (.negSucc 0))], [], [qvK (.negSucc 1)], zh29, []), 0, 0),
   ((3, [qtN 0 1 1000, qtN 1 51 2147483647], [], [qvK (.negSucc 1)], zh29, []), 0, 0),
   ((3, [qtN 0 1 1000, qtN 1 0 50], [], [qvK (.ofNat 1)], [zc27, qiC 0 [qgN 0 0 0, .inl ((.ofNat 3), []), qgN 7 0 0, .inl ((.ofNat 3), []), qgN 0 0 0, .inl ((.ofNat 5), []), qgN 7 0 0, qgS 0, qgN 0 0 0, qgS 1, qgN 0 0 0, qgS 2, qgN 0 0 0, .inl ((.negSucc 0), []), qgN 21 0 0, .inl ((.ofNat 1), []), qgN 39 0 0, .inl ((.ofNat 1), []), qgN 39 0 0, .inl ((.ofNat 1), []), qgN 39 0 0, .inl ((.ofNat 1), []), qgN 621 0 0, .inl ((.negSucc 99), []), qgN 0 0 0, .inl ((.ofNat 100), []), qgN 0 0 0, .inl ((.negSucc 99), []), qgN 0 0 0, .inl ((.ofNat 100), []), qgN 0 0 0, .inl ((.negSucc 99), []), qgN 0 0 0, .inl ((.ofNat 100), []), qgN 0 0 0, .inl ((.negSucc 99), []), qgN 0 0 0, .inl ((.ofNat 100), []), qgN 118 0 0], qiC 0 [qgN 1820 0 0], qiC 3 [qgN 2 0 0], qiC 0 [qgN 70 0 0], qiC 0 [qgN 70 0 0], qiC 0 [qgN 70 0 0], qjC 1 1000000070, qjC 1 1000000008, qiC 0 [qgN 910 0 0], qiC 0 [qgN 910 0 0], qiC 0 [qgN 20 0 0], qiC 0 [qgN 20 0 0], qiC 0 [qgN 910 0 0], qjC 1 1000000004], []), 0, 0)])
noncomputable def c156_0_e : List Ct := [c145_18, c145_19]
noncomputable def c156_0_pts : List PE := []
set_option maxRecDepth 100000 in
theorem c156_0_k : enCtF c156_0 c156_0_e (pkP (c156_0_pts ++ []) []) (none) noH 3000 = true := by decide +kernel
set_option maxRecDepth 100000 in
theorem c156_0_v : ValidC PPk c156_0 := ct_ok fpk noH_ok (d := 1) (ext := []) (pts := c156_0_pts) (env := c156_0_e) rfl (List.forall_mem_cons.mpr ⟨⟨c145_18_v, Nat.le_of_ble_eq_true rfl⟩, List.forall_mem_cons.mpr ⟨⟨c145_19_v, Nat.le_of_ble_eq_true rfl⟩, fun _ h => (by cases h)⟩⟩) ext_nil (fun q h => (by cases h)) (enF c156_0_k) (fun _ h => (by cases h))

noncomputable def c12_20 : Ct := (12, 1, (1, [qtA 0], [], [qvS 0, qvK (.ofNat 0), qvK (.ofNat 3)], [], []),
  [((1, [(0, (.negSucc 2147483647), (.negSucc 0))], [], [qvK (.ofNat 0)], [], []), 0, 0),
   ((1, [qtN 0 4 2147483647], [], [qvK (.ofNat 0)], [], []), 0, 0),
   ((1, [qtN 0 0 3], [], [qvK (.ofNat 1)], [], []), 0, 0)])
noncomputable def c12_20_e : List Ct := []
noncomputable def c12_20_pts : List PE := []
set_option maxRecDepth 100000 in
theorem c12_20_k : enCtF c12_20 c12_20_e (pkP (c12_20_pts ++ []) []) (none) noH 3000 = true := by decide +kernel
set_option maxRecDepth 100000 in
theorem c12_20_v : ValidC PPk c12_20 := ct_ok fpk noH_ok (d := 0) (ext := []) (pts := c12_20_pts) (env := c12_20_e) rfl (fun _ h => (by cases h)) ext_nil (fun q h => (by cases h)) (enF c12_20_k) (fun _ h => (by cases h))

noncomputable def c12_21 : Ct := (12, 1, (2, [qtA 0, qtA 1], [], [qvS 0, qvS 1, qvK (.ofNat 1000)], [], []),
  [((2, [(0, (.negSucc 2147483647), (.ofNat 2147483646)), (1, (.negSucc 2147483646), (.ofNat 2147483647))], [((.ofNat 1), [(0, (.ofNat 1)), (1, (.negSucc 0))])], [qvK (.ofNat 0)], [], []), 0, 0),
   ((2, [qtN 0 1001 2147483647], [((.ofNat 0), [(0, (.negSucc 0)), (1, (.ofNat 1))])], [qvK (.ofNat 0)], [], []), 0, 0),
   ((2, [(0, (.negSucc 2147483647), (.ofNat 1000))], [((.ofNat 0), [(0, (.negSucc 0)), (1, (.ofNat 1))])], [qvK (.ofNat 1)], [], []), 0, 0)])
noncomputable def c12_21_e : List Ct := []
noncomputable def c12_21_pts : List PE := []
set_option maxRecDepth 100000 in
theorem c12_21_k : enCtF c12_21 c12_21_e (pkP (c12_21_pts ++ []) []) (none) noH 3000 = true := by decide +kernel
set_option maxRecDepth 100000 in
theorem c12_21_v : ValidC PPk c12_21 := ct_ok fpk noH_ok (d := 0) (ext := []) (pts := c12_21_pts) (env := c12_21_e) rfl (fun _ h => (by cases h)) ext_nil (fun q h => (by cases h)) (enF c12_21_k) (fun _ h => (by cases h))

noncomputable def zh79 : AH := [zc23, zc15, qrC 4 [some 3, some 8], zc16, qiC 0 [qgN 60 0 0], qiC 0 [qgN 60 0 0], qiC 0 [qgN 60 0 0], qiC 0 [qgN 60 0 0], zc17, qiC 0 [qgN 60 0 0], qiC 0 [qgN 60 0 0], qiC 0 [qgN 60 0 0], qiC 0 [qgN 60 0 0], zc18, qiC 0 [qgN 6 0 0], qiC 0 [qgN 6 0 0], qiC 0 [qgN 8 0 0], qiC 0 [qgN 8 0 0], qiC 0 [qgN 8 0 0], qiC 0 [qgN 8 0 0], qiC 0 [qgN 8 0 0], zc19, qiC 0 [qgN 6 0 0], qiC 0 [qgN 6 0 0], qiC 0 [qgN 6 0 0], qiC 0 [qgN 6 0 0], qiC 0 [qgA 4], qiC 0 [qgA 4], zc20, qiC 2 [qgN 60 0 0], qiC 0 [qgN 60 0 0], qjC 1 1000000060, zc21, qiC 0 [qgN 8 0 0], qiC 0 [qgN 8 0 0], qiC 0 [qgN 8 0 0], qiC 0 [qgN 8 0 0], qiC 0 [qgN 8 0 0], qiC 0 [qgN 10 0 0], qiC 0 [qgN 4 0 0], qiC 0 [qgN 4 0 0], zc65, zc38, zc39, qiC 0 [qgN 12 0 0], zc40, qiC 0 [qgN 12 0 0], zc41, qiC 0 [qgN 12 0 0], zc24, qiC 0 [qgN 12 0 0], zc42, qiC 0 [qgN 32 0 0], qiC 0 [qgN 8 0 0], qiC 0 [qgN 8 0 0], qiC 0 [qgN 2 0 0], qiC 0 [qgN 6 0 0], zc26, qjC 1 1000000006, qjC 1 1000000004, qrC 6 [none, none], qrC 7 [none, none]]
noncomputable def c30_0 : Ct := (30, 2, (5, [qtA 0, qtA 1, qtA 2, qtA 3, qtN 4 0 1001], [], [qvR 0, qvS 0, qvS 1, qvS 2], zh79, []),
  [((5, [(0, (.negSucc 2147483647), (.negSucc 0))], [], [qvK (.negSucc 1)], zh79, []), 0, 0),
   ((5, [qtN 0 4 2147483647], [], [qvK (.negSucc 1)], zh79, []), 0, 0),
   ((5, [qtN 0 0 3, (1, (.negSucc 2147483647), (.negSucc 1000))], [], [qvK (.negSucc 1)], zh79, []), 0, 0),
   ((5, [qtN 0 0 3, qtN 1 1001 2147483647], [], [qvK (.negSucc 1)], zh79, []), 0, 0),
   ((5, [qtN 0 0 3, (1, (.negSucc 999), (.ofNat 1000)), (2, (.negSucc 2147483647), (.ofNat 999))], [((.ofNat 1), [(1, (.negSucc 0)), (2, (.ofNat 1))])], [qvK (.negSucc 1)], zh79, []), 0, 0),
   ((5, [qtN 0 0 3, (1, (.negSucc 999), (.ofNat 1000)), qtN 2 1001 2147483647], [], [qvK (.negSucc 1)], zh79, []), 0, 0),
   ((5, [qtN 0 0 3, (1, (.negSucc 999), (.ofNat 1000)), (2, (.negSucc 999), (.ofNat 1000))], [((.ofNat 0), [(1, (.ofNat 1)), (2, (.negSucc 0))])], [qvK (.ofNat 1)], zh79, []), 0, 0)])
noncomputable def c30_0_e : List Ct := [c12_13, c12_20, c12_21]
noncomputable def c30_0_pts : List PE := []
set_option maxRecDepth 100000 in
theorem c30_0_k : enCtF c30_0 c30_0_e (pkP (c30_0_pts ++ []) []) (none) noH 3000 = true := by decide +kernel
set_option maxRecDepth 100000 in
theorem c30_0_v : ValidC PPk c30_0 := ct_ok fpk noH_ok (d := 1) (ext := []) (pts := c30_0_pts) (env := c30_0_e) rfl (List.forall_mem_cons.mpr ⟨⟨c12_13_v, Nat.le_of_ble_eq_true rfl⟩, List.forall_mem_cons.mpr ⟨⟨c12_20_v, Nat.le_of_ble_eq_true rfl⟩, List.forall_mem_cons.mpr ⟨⟨c12_21_v, Nat.le_of_ble_eq_true rfl⟩, fun _ h => (by cases h)⟩⟩⟩) ext_nil (fun q h => (by cases h)) (enF c30_0_k) (fun _ h => (by cases h))

noncomputable def c145_20 : Ct := (145, 1, (1, [qtA 0], [], [qvS 0, qvK (.ofNat 0), qvK (.ofNat 3)], [], []),
  [((1, [(0, (.negSucc 2147483647), (.negSucc 0))], [], [qvK (.ofNat 0)], [], []), 0, 0),
   ((1, [qtN 0 4 2147483647], [], [qvK (.ofNat 0)], [], []), 0, 0),
   ((1, [qtN 0 0 3], [], [qvK (.ofNat 1)], [], []), 0, 0)])
noncomputable def c145_20_e : List Ct := []
noncomputable def c145_20_pts : List PE := []
set_option maxRecDepth 100000 in
theorem c145_20_k : enCtF c145_20 c145_20_e (pkP (c145_20_pts ++ []) []) (none) noH 3000 = true := by decide +kernel
set_option maxRecDepth 100000 in
theorem c145_20_v : ValidC PPk c145_20 := ct_ok fpk noH_ok (d := 0) (ext := []) (pts := c145_20_pts) (env := c145_20_e) rfl (fun _ h => (by cases h)) ext_nil (fun q h => (by cases h)) (enF c145_20_k) (fun _ h => (by cases h))

noncomputable def c145_21 : Ct := (145, 1, (2, [qtA 0, qtA 1], [], [qvS 0, qvS 1, qvK (.ofNat 1000)], [], []),
  [((2, [(0, (.negSucc 2147483647), (.ofNat 2147483646)), (1, (.negSucc 2147483646), (.ofNat 2147483647))], [((.ofNat 1), [(0, (.ofNat 1)), (1, (.negSucc 0))])], [qvK (.ofNat 0)], [], []), 0, 0),
   ((2, [qtN 0 1001 2147483647], [((.ofNat 0), [(0, (.negSucc 0)), (1, (.ofNat 1))])], [qvK (.ofNat 0)], [], []), 0, 0),
   ((2, [(0, (.negSucc 2147483647), (.ofNat 1000))], [((.ofNat 0), [(0, (.negSucc 0)), (1, (.ofNat 1))])], [qvK (.ofNat 1)], [], []), 0, 0)])
noncomputable def c145_21_e : List Ct := []
noncomputable def c145_21_pts : List PE := []
set_option maxRecDepth 100000 in
theorem c145_21_k : enCtF c145_21 c145_21_e (pkP (c145_21_pts ++ []) []) (none) noH 3000 = true := by decide +kernel
set_option maxRecDepth 100000 in
theorem c145_21_v : ValidC PPk c145_21 := ct_ok fpk noH_ok (d := 0) (ext := []) (pts := c145_21_pts) (env := c145_21_e) rfl (fun _ h => (by cases h)) ext_nil (fun q h => (by cases h)) (enF c145_21_k) (fun _ h => (by cases h))

noncomputable def zh80 : AH := [zc27, qiC 0 [qgN 1 3 3, qgN 7 0 0, qgN 1 3 3, qgN 1 5 5, qgN 7 0 0, qgN 1 100 100, qgN 2 0 0, .inr (1, (.negSucc 0), (.negSucc 0)), qgN 21 0 0, qgN 1 1 1, qgN 39 0 0, qgN 1 1 1, qgN 39 0 0, qgN 1 1 1, qgN 39 0 0, qgN 1 1 1, qgN 621 0 0, qgA 8, qgN 118 0 0], qiC 0 [qgN 1820 0 0], qiC 3 [qgN 2 0 0], qiC 0 [qgN 70 0 0], qiC 0 [qgN 70 0 0], qiC 0 [qgN 70 0 0], qjC 1 1000000070, qjC 1 1000000008, qiC 0 [qgN 910 0 0], qiC 0 [qgN 910 0 0], qiC 0 [qgN 20 0 0], qiC 0 [qgN 20 0 0], qiC 0 [qgN 910 0 0], qjC 1 1000000004]
noncomputable def c157_0 : Ct := (157, 2, (3, [qtA 0, qtA 1, qtA 2], [], [qvR 0, qvS 0, qvS 1, qvS 2], zh80, []),
  [((3, [(0, (.negSucc 2147483647), (.negSucc 0))], [], [qvK (.negSucc 1)], zh80, []), 0, 0),
   ((3, [qtN 0 4 2147483647], [], [qvK (.negSucc 1)], zh80, []), 0, 0),
   ((3, [qtN 0 0 3, (1, (.negSucc 2147483647), (.negSucc 1000))], [], [qvK (.negSucc 1)], zh80, []), 0, 0),
   ((3, [qtN 0 0 3, qtN 1 1001 2147483647], [], [qvK (.negSucc 1)], zh80, []), 0, 0),
   ((3, [qtN 0 0 3, (1, (.negSucc 999), (.ofNat 1000)), (2, (.negSucc 2147483647), (.ofNat 999))], [((.ofNat 1), [(1, (.negSucc 0)), (2, (.ofNat 1))])], [qvK (.negSucc 1)], zh80, []), 0, 0),
   ((3, [qtN 0 0 3, (1, (.negSucc 999), (.ofNat 1000)), qtN 2 1001 2147483647], [], [qvK (.negSucc 1)], zh80, []), 0, 0),
   ((3, [qtN 0 0 3, (1, (.negSucc 999), (.ofNat 1000)), (2, (.negSucc 999), (.ofNat 1000))], [((.ofNat 0), [(1, (.ofNat 1)), (2, (.negSucc 0))])], [qvK (.ofNat 1)], zh80, []), 0, 0)])
noncomputable def c157_0_e : List Ct := [c145_13, c145_20, c145_21]
noncomputable def c157_0_pts : List PE := []
set_option maxRecDepth 100000 in
theorem c157_0_k : enCtF c157_0 c157_0_e (pkP (c157_0_pts ++ []) []) (none) noH 3000 = true := by decide +kernel
set_option maxRecDepth 100000 in
theorem c157_0_v : ValidC PPk c157_0 := ct_ok fpk noH_ok (d := 1) (ext := []) (pts := c157_0_pts) (env := c157_0_e) rfl (List.forall_mem_cons.mpr ⟨⟨c145_13_v, Nat.le_of_ble_eq_true rfl⟩, List.forall_mem_cons.mpr ⟨⟨c145_20_v, Nat.le_of_ble_eq_true rfl⟩, List.forall_mem_cons.mpr ⟨⟨c145_21_v, Nat.le_of_ble_eq_true rfl⟩, fun _ h => (by cases h)⟩⟩⟩) ext_nil (fun q h => (by cases h)) (enF c157_0_k) (fun _ h => (by cases h))

noncomputable def c12_22 : Ct := (12, 1, (1, [qtA 0], [], [qvS 0, qvK (.ofNat 0), qvK (.ofNat 127)], [], []),
  [((1, [(0, (.negSucc 2147483647), (.negSucc 0))], [], [qvK (.ofNat 0)], [], []), 0, 0),
   ((1, [qtN 0 128 2147483647], [], [qvK (.ofNat 0)], [], []), 0, 0),
   ((1, [qtN 0 0 127], [], [qvK (.ofNat 1)], [], []), 0, 0)])
noncomputable def c12_22_e : List Ct := []
noncomputable def c12_22_pts : List PE := []
set_option maxRecDepth 100000 in
theorem c12_22_k : enCtF c12_22 c12_22_e (pkP (c12_22_pts ++ []) []) (none) noH 3000 = true := by decide +kernel
set_option maxRecDepth 100000 in
theorem c12_22_v : ValidC PPk c12_22 := ct_ok fpk noH_ok (d := 0) (ext := []) (pts := c12_22_pts) (env := c12_22_e) rfl (fun _ h => (by cases h)) ext_nil (fun q h => (by cases h)) (enF c12_22_k) (fun _ h => (by cases h))

noncomputable def zc81 : AC := qoC 5 [qvS 0, qvR 1, qvS 1, qvS 2, qvS 3, qvR 2, qvR 3]
noncomputable def zc82 : AC := qoC 5 [qvS 0, qvR 1, qvS 1, qvS 5, qvS 3, qvR 2, qvR 3]
noncomputable def zh83 : AH := [zc82, qiC 2 [qgN 60 0 127], qkC 100 4, qjC 1 60]
noncomputable def zc84 : AC := qoC 5 [qvS 0, qvR 1, qvS 1, qvS 6, qvS 3, qvR 2, qvR 3]
noncomputable def c40_0 : Ct := (40, 1, (5, [qtN 0 0 60, qtA 1, qtN 2 0 60, qtN 3 0 60], [], [qvR 0], [zc81, qiC 2 [qgN 60 0 127], qkC 100 4, qjC 1 60], []),
  [((6, [qtN 5 0 60], [], [qvK (.negSucc 0)], zh83, []), 0, 0),
   ((7, [qtN 0 1 60, (1, (.negSucc 0), (.negSucc 0)), qtN 5 0 127, qtN 6 0 59], [((.ofNat 1), [(0, (.negSucc 0)), (6, (.ofNat 1))])], [qvS 5], [zc84, qiC 2 [qgN 60 0 127], qkC 100 4, qjC 1 60], []), 0, 0)])
noncomputable def c40_0_e : List Ct := []
noncomputable def c40_0_p0 : PE := (10, [0], (6, [qtN 0 0 60, (1, (.negSucc 0), (.negSucc 0)), qtN 2 0 60, qtN 3 0 60, qtN 5 0 60], [], [qvR 0], zh83, []), symsL 5 0, some ((.ofNat 121), [(5, (.negSucc 0))]), 0, 0)
noncomputable def c40_0_pts : List PE := [c40_0_p0]
set_option maxRecDepth 100000 in
theorem c40_0_k : enCtF c40_0 c40_0_e (pkP (c40_0_pts ++ []) [0]) (none) (noF, noM, 1024, 0, 5) 3000 = true := by decide +kernel
set_option maxRecDepth 100000 in
theorem c40_0_k0 : ptCtF c40_0 c40_0_e (pkP (c40_0_pts ++ []) [0]) (noF, noM, 1024, 0, 5) 3000 c40_0_p0 = true := by decide +kernel
set_option maxRecDepth 100000 in
theorem c40_0_v : ValidC PPk c40_0 := ct_ok fpk ⟨noF_ok, noM_ok⟩ (d := 0) (ext := []) (pts := c40_0_pts) (env := c40_0_e) rfl (fun _ h => (by cases h)) ext_nil (fun q h => (by cases h)) (enF c40_0_k) (List.forall_mem_cons.mpr ⟨⟨_, ptF c40_0_k0⟩, fun _ h => (by cases h)⟩)

noncomputable def zh85 : AH := [zc81, qkC 102 4, qkC 100 5, qjC 1 60]
noncomputable def c43_0 : Ct := (43, 1, (8, [qtN 0 0 60, qtA 1, qtN 2 0 60, qtN 3 0 60, qtA 6, qtA 7], [], [qvR 0, qvS 6, qvS 7], zh85, []),
  [((9, [qtA 8], [], [], [qoC 5 [qvS 0, qvR 1, qvS 8, qvS 2, qvS 3, qvR 2, qvR 3], qkC 102 4, qkC 100 5, qjC 1 60], []), 0, 0)])
noncomputable def c43_0_e : List Ct := []
noncomputable def c43_0_pts : List PE := []
set_option maxRecDepth 100000 in
theorem c43_0_k : enCtF c43_0 c43_0_e (pkP (c43_0_pts ++ []) []) (none) noH 3000 = true := by decide +kernel
set_option maxRecDepth 100000 in
theorem c43_0_v : ValidC PPk c43_0 := ct_ok fpk noH_ok (d := 0) (ext := []) (pts := c43_0_pts) (env := c43_0_e) rfl (fun _ h => (by cases h)) ext_nil (fun q h => (by cases h)) (enF c43_0_k) (fun _ h => (by cases h))

noncomputable def zh86 : AH := [qoC 5 [qvS 0, qvR 1, qvS 6, qvS 2, qvS 3, qvR 2, qvR 3], qkC 102 4, qkC 100 5, qjC 1 60]
noncomputable def c45_0 : Ct := (45, 2, (6, [qtN 0 0 60, qtA 1, qtN 2 0 60, qtN 3 0 60], [((.ofNat 1), [(0, (.negSucc 0)), (2, (.ofNat 1))])], [qvR 0, qvK (.ofNat 8)], zh85, []),
  [((7, [qtA 6], [], [], zh86, []), 0, 0)])
noncomputable def c45_0_e : List Ct := [c43_0]
noncomputable def c45_0_pts : List PE := []
set_option maxRecDepth 100000 in
theorem c45_0_k : enCtF c45_0 c45_0_e (pkP (c45_0_pts ++ []) []) (none) noH 3000 = true := by decide +kernel
set_option maxRecDepth 100000 in
theorem c45_0_v : ValidC PPk c45_0 := ct_ok fpk noH_ok (d := 1) (ext := []) (pts := c45_0_pts) (env := c45_0_e) rfl (List.forall_mem_cons.mpr ⟨⟨c43_0_v, Nat.le_of_ble_eq_true rfl⟩, fun _ h => (by cases h)⟩) ext_nil (fun q h => (by cases h)) (enF c45_0_k) (fun _ h => (by cases h))

noncomputable def c44_0 : Ct := (44, 1, (6, [qtN 0 0 60, qtA 1, qtN 2 0 60, qtN 3 0 60, qtA 5], [], [qvR 0, qvS 5], [zc81, qkC 102 4, qiC 0 [qgA 60], qjC 1 60], []),
  [((7, [qtN 6 1 60], [], [], [qoC 5 [qvS 0, qvR 1, qvS 1, qvS 2, qvS 6, qvR 2, qvR 3], qkC 102 4, qiC 0 [qgA 60], qjC 1 60], []), 0, 0)])
noncomputable def c44_0_e : List Ct := []
noncomputable def c44_0_pts : List PE := []
set_option maxRecDepth 100000 in
theorem c44_0_k : enCtF c44_0 c44_0_e (pkP (c44_0_pts ++ []) []) (none) noH 3000 = true := by decide +kernel
set_option maxRecDepth 100000 in
theorem c44_0_v : ValidC PPk c44_0 := ct_ok fpk noH_ok (d := 0) (ext := []) (pts := c44_0_pts) (env := c44_0_e) rfl (fun _ h => (by cases h)) ext_nil (fun q h => (by cases h)) (enF c44_0_k) (fun _ h => (by cases h))

noncomputable def zh87 : AH := [zc81, qiC 2 [qgN 60 0 127], qiC 0 [qgA 60], qjC 1 60]
noncomputable def zh88 : AH := [qoC 5 [qvS 0, qvR 1, qvS 4, qvS 5, qvS 6, qvR 2, qvR 3], qiC 2 [qgN 60 0 127], qiC 0 [qgA 60], qjC 1 60]
noncomputable def zh89 : AH := [zc82, qiC 2 [qgN 60 0 127], qiC 0 [qgA 60], qjC 1 60]
noncomputable def c42_0 : Ct := (42, 2, (4, [qtN 0 0 60, qtA 1, qtN 2 0 60, qtN 3 0 60], [], [qvR 0], zh87, []),
  [((7, [qtA 4, qtN 5 0 60, qtN 6 0 60], [], [], zh88, []), 0, 0)])
noncomputable def c42_0_e : List Ct := [c43_0, c44_0]
noncomputable def c42_0_p0 : PE := (7, [0, 1, 2], (6, [qtN 0 0 60, qtA 1, qtN 2 0 60, qtN 3 0 60, qtA 4, qtN 5 0 60], [], [qvR 0, qvS 2, qvS 4], zh89, []), symsL 4 0, some ((.ofNat 121), [(5, (.negSucc 0))]), 0, 0)
noncomputable def c42_0_pts : List PE := [c42_0_p0]
set_option maxRecDepth 100000 in
theorem c42_0_k : enCtF c42_0 c42_0_e (pkP (c42_0_pts ++ []) [0]) (none) (noF, noM, 128, 0, 4) 3000 = true := by decide +kernel
set_option maxRecDepth 100000 in
theorem c42_0_k0 : ptCtF c42_0 c42_0_e (pkP (c42_0_pts ++ []) [0]) (noF, noM, 128, 0, 4) 3000 c42_0_p0 = true := by decide +kernel
set_option maxRecDepth 100000 in
theorem c42_0_v : ValidC PPk c42_0 := ct_ok fpk ⟨noF_ok, noM_ok⟩ (d := 1) (ext := []) (pts := c42_0_pts) (env := c42_0_e) rfl (List.forall_mem_cons.mpr ⟨⟨c43_0_v, Nat.le_of_ble_eq_true rfl⟩, List.forall_mem_cons.mpr ⟨⟨c44_0_v, Nat.le_of_ble_eq_true rfl⟩, fun _ h => (by cases h)⟩⟩) ext_nil (fun q h => (by cases h)) (enF c42_0_k) (List.forall_mem_cons.mpr ⟨⟨_, ptF c42_0_k0⟩, fun _ h => (by cases h)⟩)

noncomputable def zh90 : AH := [qoC 5 [qvS 0, qvR 1, qvS 5, qvS 6, qvS 7, qvR 2, qvR 3], qiC 2 [qgN 60 0 127], qiC 0 [qgA 60], qjC 1 60]
noncomputable def c41_0 : Ct := (41, 3, (5, [qtN 0 0 60, qtA 1, qtN 2 0 60, qtN 3 0 60, qtA 4], [((.ofNat 1), [(0, (.negSucc 0)), (2, (.ofNat 1))])], [qvR 0, qvS 4, qvK (.ofNat 8)], zh87, []),
  [((8, [qtA 5, qtN 6 0 60, qtN 7 0 60], [], [], zh90, []), 0, 0)])
noncomputable def c41_0_e : List Ct := [c42_0, c43_0, c44_0, c45_0]
noncomputable def c41_0_pts : List PE := []
set_option maxRecDepth 100000 in
theorem c41_0_k : enCtF c41_0 c41_0_e (pkP (c41_0_pts ++ []) []) (none) noH 3000 = true := by decide +kernel
set_option maxRecDepth 100000 in
theorem c41_0_v : ValidC PPk c41_0 := ct_ok fpk noH_ok (d := 2) (ext := []) (pts := c41_0_pts) (env := c41_0_e) rfl (List.forall_mem_cons.mpr ⟨⟨c42_0_v, Nat.le_of_ble_eq_true rfl⟩, List.forall_mem_cons.mpr ⟨⟨c43_0_v, Nat.le_of_ble_eq_true rfl⟩, List.forall_mem_cons.mpr ⟨⟨c44_0_v, Nat.le_of_ble_eq_true rfl⟩, List.forall_mem_cons.mpr ⟨⟨c45_0_v, Nat.le_of_ble_eq_true rfl⟩, fun _ h => (by cases h)⟩⟩⟩⟩) ext_nil (fun q h => (by cases h)) (enF c41_0_k) (fun _ h => (by cases h))

noncomputable def c41_1 : Ct := (41, 2, (6, [qtN 0 0 60, qtA 1, qtN 2 0 60, qtN 3 0 60], [], [qvR 0, qvK (.negSucc 0), qvK (.ofNat 8)], zh85, []),
  [((7, [qtA 6], [], [], zh86, []), 0, 0)])
noncomputable def c41_1_e : List Ct := [c43_0]
noncomputable def c41_1_pts : List PE := []
set_option maxRecDepth 100000 in
theorem c41_1_k : enCtF c41_1 c41_1_e (pkP (c41_1_pts ++ []) []) (none) noH 3000 = true := by decide +kernel
set_option maxRecDepth 100000 in
theorem c41_1_v : ValidC PPk c41_1 := ct_ok fpk noH_ok (d := 1) (ext := []) (pts := c41_1_pts) (env := c41_1_e) rfl (List.forall_mem_cons.mpr ⟨⟨c43_0_v, Nat.le_of_ble_eq_true rfl⟩, fun _ h => (by cases h)⟩) ext_nil (fun q h => (by cases h)) (enF c41_1_k) (fun _ h => (by cases h))

noncomputable def zh91 : AH := [zc84, qiC 2 [qgN 60 0 127], qiC 0 [qgA 60], qjC 1 60]
noncomputable def zh92 : AH := [qoC 5 [qvS 0, qvR 1, qvS 7, qvS 8, qvS 9, qvR 2, qvR 3], qiC 2 [qgN 60 0 127], qiC 0 [qgA 60], qjC 1 60]
noncomputable def c39_0 : Ct := (39, 4, (4, [qtN 0 0 60, qtA 1, qtN 2 0 60, qtN 3 0 60], [], [qvR 0, qvK (.ofNat 8)], zh87, []),
  [((7, [qtA 4, qtN 5 0 60, qtN 6 0 60], [], [], zh88, []), 0, 0)])
noncomputable def c39_0_e : List Ct := [c40_0, c41_0, c41_1, c44_0]
noncomputable def c39_0_p0 : PE := (13, [0, 1, 2, 3, 4], (7, [qtN 0 1 60, (1, (.negSucc 0), (.negSucc 0)), qtN 2 0 60, qtN 3 0 60, qtN 4 0 127, qtN 5 0 60, qtN 6 0 59], [((.ofNat 1), [(0, (.negSucc 0)), (6, (.ofNat 1))])], [qvR 0, qvK (.ofNat 8), qvS 2, qvS 4, qvS 5], zh91, []), symsL 4 0, some ((.ofNat 182), [(5, (.negSucc 0))]), 0, 0)
noncomputable def c39_0_p1 : PE := (13, [0, 1, 2, 3, 4], (6, [qtN 0 0 60, qtA 1, qtN 2 0 60, qtN 3 0 60, qtN 4 0 60, qtN 5 0 60], [], [qvR 0, qvK (.ofNat 8), qvS 2, qvK (.negSucc 0), qvS 4], zh89, []), symsL 4 0, some ((.ofNat 182), [(4, (.negSucc 0))]), 0, 0)
noncomputable def c39_0_p2 : PE := (71, [0, 1, 2, 3, 4, 5], (10, [qtN 0 0 60, qtA 1, qtN 2 0 60, qtN 3 0 60, (4, (.negSucc 0), (.ofNat 127)), qtN 5 0 60, (6, (.negSucc 0), (.ofNat 59)), qtA 7, qtN 8 0 60, qtN 9 0 60], [], [qvR 0, qvK (.ofNat 8), qvS 2, qvS 4, qvS 5, qvS 6], zh92, []), symsL 4 0, some ((.ofNat 62), [(6, (.ofNat 1))]), 0, 0)
noncomputable def c39_0_pts : List PE := [c39_0_p0, c39_0_p1, c39_0_p2]
set_option maxRecDepth 100000 in
theorem c39_0_k : enCtF c39_0 c39_0_e (pkP (c39_0_pts ++ []) [1, 0]) (none) (noF, noM, 2361183241434822615040, 0, 4) 3000 = true := by decide +kernel
set_option maxRecDepth 100000 in
theorem c39_0_k0 : ptCtF c39_0 c39_0_e (pkP (c39_0_pts ++ []) [2, 1, 0]) (noF, noM, 2361183241434822615040, 0, 4) 3000 c39_0_p0 = true := by decide +kernel
set_option maxRecDepth 100000 in
theorem c39_0_k1 : ptCtF c39_0 c39_0_e (pkP (c39_0_pts ++ []) [2]) (noF, noM, 2361183241434822615040, 0, 4) 3000 c39_0_p1 = true := by decide +kernel
set_option maxRecDepth 100000 in
theorem c39_0_k2 : ptCtF c39_0 c39_0_e (pkP (c39_0_pts ++ []) [2]) (noF, noM, 2361183241434822615040, 0, 4) 3000 c39_0_p2 = true := by decide +kernel
set_option maxRecDepth 100000 in
theorem c39_0_v : ValidC PPk c39_0 := ct_ok fpk ⟨noF_ok, noM_ok⟩ (d := 3) (ext := []) (pts := c39_0_pts) (env := c39_0_e) rfl (List.forall_mem_cons.mpr ⟨⟨c40_0_v, Nat.le_of_ble_eq_true rfl⟩, List.forall_mem_cons.mpr ⟨⟨c41_0_v, Nat.le_of_ble_eq_true rfl⟩, List.forall_mem_cons.mpr ⟨⟨c41_1_v, Nat.le_of_ble_eq_true rfl⟩, List.forall_mem_cons.mpr ⟨⟨c44_0_v, Nat.le_of_ble_eq_true rfl⟩, fun _ h => (by cases h)⟩⟩⟩⟩) ext_nil (fun q h => (by cases h)) (enF c39_0_k) (List.forall_mem_cons.mpr ⟨⟨_, ptF c39_0_k0⟩, List.forall_mem_cons.mpr ⟨⟨_, ptF c39_0_k1⟩, List.forall_mem_cons.mpr ⟨⟨_, ptF c39_0_k2⟩, fun _ h => (by cases h)⟩⟩⟩)

noncomputable def zt0 (r : TbL) : TbL := qtN 0 0 60 :: qtA 1 :: qtN 2 0 60 :: qtN 3 0 60 :: qtA 4 :: qtN 5 0 60 :: qtN 6 0 60 :: r
noncomputable def zh93 : AH := [qoC 5 [qvS 0, qvR 1, qvS 6, qvS 7, qvS 8, qvR 2, qvR 3], qiC 2 [qgN 60 0 127], qiC 0 [qgA 60], qjC 1 60]
noncomputable def c38_0 : Ct := (38, 5, (4, [qtN 0 0 60, qtA 1, qtN 2 0 60, qtN 3 0 60], [], [qvR 0, qvK (.ofNat 8)], zh87, []),
  [((7, [qtA 4, qtN 5 0 60, qtN 6 0 60], [], [], zh88, []), 0, 0)])
noncomputable def c38_0_e : List Ct := [c39_0, c40_0, c44_0]
noncomputable def c38_0_p0 : PE := (7, [0, 1, 2], (7, (zt0 []), [], [qvR 0, qvK (.ofNat 8), qvK (.ofNat 0)], zh88, []), symsL 4 0, some ((.ofNat 121), []), 0, 0)
noncomputable def c38_0_p1 : PE := (7, [0, 1, 2, 3], (9, [qtN 0 1 60, qtA 1, qtN 2 0 60, qtN 3 0 60, qtN 4 1 60, qtN 5 42 47, qtA 6, qtN 7 0 60, qtN 8 1 60], [], [qvR 0, qvK (.ofNat 8), qvS 4, qvS 5], zh93, []), symsL 4 0, some ((.ofNat 121), [(4, (.negSucc 0))]), 0, 0)
noncomputable def c38_0_pts : List PE := [c38_0_p0, c38_0_p1]
set_option maxRecDepth 100000 in
theorem c38_0_k : enCtF c38_0 c38_0_e (pkP (c38_0_pts ++ []) [0]) (none) (noF, noM, 128, 0, 4) 3000 = true := by decide +kernel
set_option maxRecDepth 100000 in
theorem c38_0_k0 : ptCtF c38_0 c38_0_e (pkP (c38_0_pts ++ []) [1]) (noF, noM, 128, 0, 4) 3000 c38_0_p0 = true := by decide +kernel
set_option maxRecDepth 100000 in
theorem c38_0_k1 : ptCtF c38_0 c38_0_e (pkP (c38_0_pts ++ []) [1]) (noF, noM, 128, 0, 4) 3000 c38_0_p1 = true := by decide +kernel
set_option maxRecDepth 100000 in
theorem c38_0_v : ValidC PPk c38_0 := ct_ok fpk ⟨noF_ok, noM_ok⟩ (d := 4) (ext := []) (pts := c38_0_pts) (env := c38_0_e) rfl (List.forall_mem_cons.mpr ⟨⟨c39_0_v, Nat.le_of_ble_eq_true rfl⟩, List.forall_mem_cons.mpr ⟨⟨c40_0_v, Nat.le_of_ble_eq_true rfl⟩, List.forall_mem_cons.mpr ⟨⟨c44_0_v, Nat.le_of_ble_eq_true rfl⟩, fun _ h => (by cases h)⟩⟩⟩) ext_nil (fun q h => (by cases h)) (enF c38_0_k) (List.forall_mem_cons.mpr ⟨⟨_, ptF c38_0_k0⟩, List.forall_mem_cons.mpr ⟨⟨_, ptF c38_0_k1⟩, fun _ h => (by cases h)⟩⟩)

noncomputable def c37_0 : Ct := (37, 6, (4, [qtN 0 0 60, qtA 1, qtN 2 0 60, qtN 3 0 60], [], [qvR 0, qvK (.ofNat 8)], zh87, []),
  [((7, [qtA 4, qtN 5 0 60, qtN 6 0 60], [], [], zh88, []), 0, 0)])
noncomputable def c37_0_e : List Ct := [c38_0, c40_0, c44_0]
noncomputable def c37_0_p0 : PE := (7, [0, 1, 2], (7, (zt0 []), [], [qvR 0, qvK (.ofNat 8), qvK (.ofNat 0)], zh88, []), symsL 4 0, some ((.ofNat 121), []), 0, 0)
noncomputable def c37_0_p1 : PE := (7, [0, 1, 2, 3], (9, [qtN 0 1 60, qtA 1, qtN 2 0 60, qtN 3 0 60, qtN 4 1 60, qtN 5 43 45, qtA 6, qtN 7 0 60, qtN 8 1 60], [], [qvR 0, qvK (.ofNat 8), qvS 4, qvS 5], zh93, []), symsL 4 0, some ((.ofNat 121), [(4, (.negSucc 0))]), 0, 0)
noncomputable def c37_0_pts : List PE := [c37_0_p0, c37_0_p1]
set_option maxRecDepth 100000 in
theorem c37_0_k : enCtF c37_0 c37_0_e (pkP (c37_0_pts ++ []) [0]) (none) (noF, noM, 128, 0, 4) 3000 = true := by decide +kernel
set_option maxRecDepth 100000 in
theorem c37_0_k0 : ptCtF c37_0 c37_0_e (pkP (c37_0_pts ++ []) [1]) (noF, noM, 128, 0, 4) 3000 c37_0_p0 = true := by decide +kernel
set_option maxRecDepth 100000 in
theorem c37_0_k1 : ptCtF c37_0 c37_0_e (pkP (c37_0_pts ++ []) [1]) (noF, noM, 128, 0, 4) 3000 c37_0_p1 = true := by decide +kernel
set_option maxRecDepth 100000 in
theorem c37_0_v : ValidC PPk c37_0 := ct_ok fpk ⟨noF_ok, noM_ok⟩ (d := 5) (ext := []) (pts := c37_0_pts) (env := c37_0_e) rfl (List.forall_mem_cons.mpr ⟨⟨c38_0_v, Nat.le_of_ble_eq_true rfl⟩, List.forall_mem_cons.mpr ⟨⟨c40_0_v, Nat.le_of_ble_eq_true rfl⟩, List.forall_mem_cons.mpr ⟨⟨c44_0_v, Nat.le_of_ble_eq_true rfl⟩, fun _ h => (by cases h)⟩⟩⟩) ext_nil (fun q h => (by cases h)) (enF c37_0_k) (List.forall_mem_cons.mpr ⟨⟨_, ptF c37_0_k0⟩, List.forall_mem_cons.mpr ⟨⟨_, ptF c37_0_k1⟩, fun _ h => (by cases h)⟩⟩)

noncomputable def c36_0 : Ct := (36, 7, (4, [qtN 0 0 60, qtA 1, qtN 2 0 60, qtN 3 0 60], [], [qvR 0, qvK (.ofNat 8)], zh87, []),
  [((7, [qtA 4, qtN 5 0 60, qtN 6 0 60], [], [], zh88, []), 0, 0)])
noncomputable def c36_0_e : List Ct := [c37_0, c40_0, c44_0]
noncomputable def c36_0_pts : List PE := []
set_option maxRecDepth 100000 in
theorem c36_0_k : enCtF c36_0 c36_0_e (pkP (c36_0_pts ++ []) []) (none) noH 3000 = true := by decide +kernel
set_option maxRecDepth 100000 in
theorem c36_0_v : ValidC PPk c36_0 := ct_ok fpk noH_ok (d := 6) (ext := []) (pts := c36_0_pts) (env := c36_0_e) rfl (List.forall_mem_cons.mpr ⟨⟨c37_0_v, Nat.le_of_ble_eq_true rfl⟩, List.forall_mem_cons.mpr ⟨⟨c40_0_v, Nat.le_of_ble_eq_true rfl⟩, List.forall_mem_cons.mpr ⟨⟨c44_0_v, Nat.le_of_ble_eq_true rfl⟩, fun _ h => (by cases h)⟩⟩⟩) ext_nil (fun q h => (by cases h)) (enF c36_0_k) (fun _ h => (by cases h))

noncomputable def c35_0 : Ct := (35, 8, (4, [qtN 0 0 60, qtA 1, qtN 2 0 60, qtN 3 0 60], [], [qvR 0, qvK (.ofNat 8)], zh87, []),
  [((7, [qtA 4, qtN 5 0 60, qtN 6 0 60], [], [], zh88, []), 0, 0)])
noncomputable def c35_0_e : List Ct := [c36_0, c40_0, c44_0]
noncomputable def c35_0_p0 : PE := (7, [0, 1, 2], (8, [qtN 0 0 60, qtA 1, qtN 2 0 60, qtN 3 0 60, qtN 4 0 60, qtA 5, qtN 6 0 60, qtN 7 0 60], [], [qvR 0, qvK (.ofNat 8), qvS 4], zh90, []), symsL 4 0, some ((.ofNat 121), [(4, (.negSucc 0))]), 0, 0)
noncomputable def c35_0_pts : List PE := [c35_0_p0]
set_option maxRecDepth 100000 in
theorem c35_0_k : enCtF c35_0 c35_0_e (pkP (c35_0_pts ++ []) [0]) (none) (noF, noM, 128, 0, 4) 3000 = true := by decide +kernel
set_option maxRecDepth 100000 in
theorem c35_0_k0 : ptCtF c35_0 c35_0_e (pkP (c35_0_pts ++ []) [0]) (noF, noM, 128, 0, 4) 3000 c35_0_p0 = true := by decide +kernel
set_option maxRecDepth 100000 in
theorem c35_0_v : ValidC PPk c35_0 := ct_ok fpk ⟨noF_ok, noM_ok⟩ (d := 7) (ext := []) (pts := c35_0_pts) (env := c35_0_e) rfl (List.forall_mem_cons.mpr ⟨⟨c36_0_v, Nat.le_of_ble_eq_true rfl⟩, List.forall_mem_cons.mpr ⟨⟨c40_0_v, Nat.le_of_ble_eq_true rfl⟩, List.forall_mem_cons.mpr ⟨⟨c44_0_v, Nat.le_of_ble_eq_true rfl⟩, fun _ h => (by cases h)⟩⟩⟩) ext_nil (fun q h => (by cases h)) (enF c35_0_k) (List.forall_mem_cons.mpr ⟨⟨_, ptF c35_0_k0⟩, fun _ h => (by cases h)⟩)

noncomputable def c34_0 : Ct := (34, 9, (4, [qtN 0 0 60, qtA 1, qtN 2 0 60, qtN 3 0 60], [], [qvR 0, qvK (.ofNat 8)], zh87, []),
  [((7, [qtA 4, qtN 5 0 60, qtN 6 0 60], [], [], zh88, []), 0, 0)])
noncomputable def c34_0_e : List Ct := [c35_0, c40_0, c44_0]
noncomputable def c34_0_p0 : PE := (7, [0, 1, 2], (8, [qtN 0 0 60, qtA 1, qtN 2 0 60, qtN 3 0 60, qtN 4 0 60, qtA 5, qtN 6 0 60, qtN 7 0 60], [], [qvR 0, qvK (.ofNat 8), qvS 4], zh90, []), symsL 4 0, some ((.ofNat 121), [(4, (.negSucc 0))]), 0, 0)
noncomputable def c34_0_pts : List PE := [c34_0_p0]
set_option maxRecDepth 100000 in
theorem c34_0_k : enCtF c34_0 c34_0_e (pkP (c34_0_pts ++ []) [0]) (none) (noF, noM, 128, 0, 4) 3000 = true := by decide +kernel
set_option maxRecDepth 100000 in
theorem c34_0_k0 : ptCtF c34_0 c34_0_e (pkP (c34_0_pts ++ []) [0]) (noF, noM, 128, 0, 4) 3000 c34_0_p0 = true := by decide +kernel
set_option maxRecDepth 100000 in
theorem c34_0_v : ValidC PPk c34_0 := ct_ok fpk ⟨noF_ok, noM_ok⟩ (d := 8) (ext := []) (pts := c34_0_pts) (env := c34_0_e) rfl (List.forall_mem_cons.mpr ⟨⟨c35_0_v, Nat.le_of_ble_eq_true rfl⟩, List.forall_mem_cons.mpr ⟨⟨c40_0_v, Nat.le_of_ble_eq_true rfl⟩, List.forall_mem_cons.mpr ⟨⟨c44_0_v, Nat.le_of_ble_eq_true rfl⟩, fun _ h => (by cases h)⟩⟩⟩) ext_nil (fun q h => (by cases h)) (enF c34_0_k) (List.forall_mem_cons.mpr ⟨⟨_, ptF c34_0_k0⟩, fun _ h => (by cases h)⟩)

noncomputable def c45_1 : Ct := (45, 10, (4, [qtN 0 0 60, qtA 1, qtN 2 0 60, qtN 3 0 60], [((.ofNat 1), [(0, (.negSucc 0)), (2, (.ofNat 1))])], [qvR 0, qvK (.ofNat 7)], zh87, []),
  [((7, [qtA 4, qtN 5 0 60, qtN 6 0 60], [], [], zh88, []), 0, 0)])
noncomputable def c45_1_e : List Ct := [c34_0, c40_0, c43_0]
noncomputable def c45_1_pts : List PE := []
set_option maxRecDepth 100000 in
theorem c45_1_k : enCtF c45_1 c45_1_e (pkP (c45_1_pts ++ []) []) (none) noH 3000 = true := by decide +kernel
set_option maxRecDepth 100000 in
theorem c45_1_v : ValidC PPk c45_1 := ct_ok fpk noH_ok (d := 9) (ext := []) (pts := c45_1_pts) (env := c45_1_e) rfl (List.forall_mem_cons.mpr ⟨⟨c34_0_v, Nat.le_of_ble_eq_true rfl⟩, List.forall_mem_cons.mpr ⟨⟨c40_0_v, Nat.le_of_ble_eq_true rfl⟩, List.forall_mem_cons.mpr ⟨⟨c43_0_v, Nat.le_of_ble_eq_true rfl⟩, fun _ h => (by cases h)⟩⟩⟩) ext_nil (fun q h => (by cases h)) (enF c45_1_k) (fun _ h => (by cases h))

noncomputable def c41_2 : Ct := (41, 11, (5, [qtN 0 0 60, qtA 1, qtN 2 0 60, qtN 3 0 60, qtA 4], [((.ofNat 1), [(0, (.negSucc 0)), (2, (.ofNat 1))])], [qvR 0, qvS 4, qvK (.ofNat 7)], zh87, []),
  [((8, [qtA 5, qtN 6 0 60, qtN 7 0 60], [], [], zh90, []), 0, 0)])
noncomputable def c41_2_e : List Ct := [c42_0, c43_0, c44_0, c45_1]
noncomputable def c41_2_pts : List PE := []
set_option maxRecDepth 100000 in
theorem c41_2_k : enCtF c41_2 c41_2_e (pkP (c41_2_pts ++ []) []) (none) noH 3000 = true := by decide +kernel
set_option maxRecDepth 100000 in
theorem c41_2_v : ValidC PPk c41_2 := ct_ok fpk noH_ok (d := 10) (ext := []) (pts := c41_2_pts) (env := c41_2_e) rfl (List.forall_mem_cons.mpr ⟨⟨c42_0_v, Nat.le_of_ble_eq_true rfl⟩, List.forall_mem_cons.mpr ⟨⟨c43_0_v, Nat.le_of_ble_eq_true rfl⟩, List.forall_mem_cons.mpr ⟨⟨c44_0_v, Nat.le_of_ble_eq_true rfl⟩, List.forall_mem_cons.mpr ⟨⟨c45_1_v, Nat.le_of_ble_eq_true rfl⟩, fun _ h => (by cases h)⟩⟩⟩⟩) ext_nil (fun q h => (by cases h)) (enF c41_2_k) (fun _ h => (by cases h))

noncomputable def c41_3 : Ct := (41, 2, (6, [qtN 0 0 60, qtA 1, qtN 2 0 60, qtN 3 0 60], [], [qvR 0, qvK (.negSucc 0), qvK (.ofNat 7)], zh85, []),
  [((7, [qtA 6], [], [], zh86, []), 0, 0)])
noncomputable def c41_3_e : List Ct := [c43_0]
noncomputable def c41_3_pts : List PE := []
set_option maxRecDepth 100000 in
theorem c41_3_k : enCtF c41_3 c41_3_e (pkP (c41_3_pts ++ []) []) (none) noH 3000 = true := by decide +kernel
set_option maxRecDepth 100000 in
theorem c41_3_v : ValidC PPk c41_3 := ct_ok fpk noH_ok (d := 1) (ext := []) (pts := c41_3_pts) (env := c41_3_e) rfl (List.forall_mem_cons.mpr ⟨⟨c43_0_v, Nat.le_of_ble_eq_true rfl⟩, fun _ h => (by cases h)⟩) ext_nil (fun q h => (by cases h)) (enF c41_3_k) (fun _ h => (by cases h))

noncomputable def c39_1 : Ct := (39, 12, (4, [qtN 0 0 60, qtA 1, qtN 2 0 60, qtN 3 0 60], [], [qvR 0, qvK (.ofNat 7)], zh87, []),
  [((7, [qtA 4, qtN 5 0 60, qtN 6 0 60], [], [], zh88, []), 0, 0)])
noncomputable def c39_1_e : List Ct := [c40_0, c41_2, c41_3, c44_0]
noncomputable def c39_1_p0 : PE := (13, [0, 1, 2, 3, 4], (7, [qtN 0 1 60, (1, (.negSucc 0), (.negSucc 0)), qtN 2 0 60, qtN 3 0 60, qtN 4 0 127, qtN 5 0 60, qtN 6 0 59], [((.ofNat 1), [(0, (.negSucc 0)), (6, (.ofNat 1))])], [qvR 0, qvK (.ofNat 7), qvS 2, qvS 4, qvS 5], zh91, []), symsL 4 0, some ((.ofNat 182), [(5, (.negSucc 0))]), 0, 0)
noncomputable def c39_1_p1 : PE := (13, [0, 1, 2, 3, 4], (6, [qtN 0 0 60, qtA 1, qtN 2 0 60, qtN 3 0 60, qtN 4 0 60, qtN 5 0 60], [], [qvR 0, qvK (.ofNat 7), qvS 2, qvK (.negSucc 0), qvS 4], zh89, []), symsL 4 0, some ((.ofNat 182), [(4, (.negSucc 0))]), 0, 0)
noncomputable def c39_1_p2 : PE := (71, [0, 1, 2, 3, 4, 5], (10, [qtN 0 0 60, qtA 1, qtN 2 0 60, qtN 3 0 60, (4, (.negSucc 0), (.ofNat 127)), qtN 5 0 60, (6, (.negSucc 0), (.ofNat 59)), qtA 7, qtN 8 0 60, qtN 9 0 60], [], [qvR 0, qvK (.ofNat 7), qvS 2, qvS 4, qvS 5, qvS 6], zh92, []), symsL 4 0, some ((.ofNat 62), [(6, (.ofNat 1))]), 0, 0)
noncomputable def c39_1_pts : List PE := [c39_1_p0, c39_1_p1, c39_1_p2]
set_option maxRecDepth 100000 in
theorem c39_1_k : enCtF c39_1 c39_1_e (pkP (c39_1_pts ++ []) [1, 0]) (none) (noF, noM, 2361183241434822615040, 0, 4) 3000 = true := by decide +kernel
set_option maxRecDepth 100000 in
theorem c39_1_k0 : ptCtF c39_1 c39_1_e (pkP (c39_1_pts ++ []) [2, 1, 0]) (noF, noM, 2361183241434822615040, 0, 4) 3000 c39_1_p0 = true := by decide +kernel
set_option maxRecDepth 100000 in
theorem c39_1_k1 : ptCtF c39_1 c39_1_e (pkP (c39_1_pts ++ []) [2]) (noF, noM, 2361183241434822615040, 0, 4) 3000 c39_1_p1 = true := by decide +kernel
set_option maxRecDepth 100000 in
theorem c39_1_k2 : ptCtF c39_1 c39_1_e (pkP (c39_1_pts ++ []) [2]) (noF, noM, 2361183241434822615040, 0, 4) 3000 c39_1_p2 = true := by decide +kernel
set_option maxRecDepth 100000 in
theorem c39_1_v : ValidC PPk c39_1 := ct_ok fpk ⟨noF_ok, noM_ok⟩ (d := 11) (ext := []) (pts := c39_1_pts) (env := c39_1_e) rfl (List.forall_mem_cons.mpr ⟨⟨c40_0_v, Nat.le_of_ble_eq_true rfl⟩, List.forall_mem_cons.mpr ⟨⟨c41_2_v, Nat.le_of_ble_eq_true rfl⟩, List.forall_mem_cons.mpr ⟨⟨c41_3_v, Nat.le_of_ble_eq_true rfl⟩, List.forall_mem_cons.mpr ⟨⟨c44_0_v, Nat.le_of_ble_eq_true rfl⟩, fun _ h => (by cases h)⟩⟩⟩⟩) ext_nil (fun q h => (by cases h)) (enF c39_1_k) (List.forall_mem_cons.mpr ⟨⟨_, ptF c39_1_k0⟩, List.forall_mem_cons.mpr ⟨⟨_, ptF c39_1_k1⟩, List.forall_mem_cons.mpr ⟨⟨_, ptF c39_1_k2⟩, fun _ h => (by cases h)⟩⟩⟩)

noncomputable def c38_1 : Ct := (38, 13, (4, [qtN 0 0 60, qtA 1, qtN 2 0 60, qtN 3 0 60], [], [qvR 0, qvK (.ofNat 7)], zh87, []),
  [((7, [qtA 4, qtN 5 0 60, qtN 6 0 60], [], [], zh88, []), 0, 0)])
noncomputable def c38_1_e : List Ct := [c39_1, c40_0, c44_0]
noncomputable def c38_1_p0 : PE := (7, [0, 1, 2], (7, (zt0 []), [], [qvR 0, qvK (.ofNat 7), qvK (.ofNat 0)], zh88, []), symsL 4 0, some ((.ofNat 121), []), 0, 0)
noncomputable def c38_1_p1 : PE := (7, [0, 1, 2, 3], (9, [qtN 0 1 60, qtA 1, qtN 2 0 60, qtN 3 0 60, qtN 4 1 60, qtN 5 42 47, qtA 6, qtN 7 0 60, qtN 8 1 60], [], [qvR 0, qvK (.ofNat 7), qvS 4, qvS 5], zh93, []), symsL 4 0, some ((.ofNat 121), [(4, (.negSucc 0))]), 0, 0)
noncomputable def c38_1_pts : List PE := [c38_1_p0, c38_1_p1]
set_option maxRecDepth 100000 in
theorem c38_1_k : enCtF c38_1 c38_1_e (pkP (c38_1_pts ++ []) [0]) (none) (noF, noM, 128, 0, 4) 3000 = true := by decide +kernel
set_option maxRecDepth 100000 in
theorem c38_1_k0 : ptCtF c38_1 c38_1_e (pkP (c38_1_pts ++ []) [1]) (noF, noM, 128, 0, 4) 3000 c38_1_p0 = true := by decide +kernel
set_option maxRecDepth 100000 in
theorem c38_1_k1 : ptCtF c38_1 c38_1_e (pkP (c38_1_pts ++ []) [1]) (noF, noM, 128, 0, 4) 3000 c38_1_p1 = true := by decide +kernel
set_option maxRecDepth 100000 in
theorem c38_1_v : ValidC PPk c38_1 := ct_ok fpk ⟨noF_ok, noM_ok⟩ (d := 12) (ext := []) (pts := c38_1_pts) (env := c38_1_e) rfl (List.forall_mem_cons.mpr ⟨⟨c39_1_v, Nat.le_of_ble_eq_true rfl⟩, List.forall_mem_cons.mpr ⟨⟨c40_0_v, Nat.le_of_ble_eq_true rfl⟩, List.forall_mem_cons.mpr ⟨⟨c44_0_v, Nat.le_of_ble_eq_true rfl⟩, fun _ h => (by cases h)⟩⟩⟩) ext_nil (fun q h => (by cases h)) (enF c38_1_k) (List.forall_mem_cons.mpr ⟨⟨_, ptF c38_1_k0⟩, List.forall_mem_cons.mpr ⟨⟨_, ptF c38_1_k1⟩, fun _ h => (by cases h)⟩⟩)

noncomputable def c37_1 : Ct := (37, 14, (4, [qtN 0 0 60, qtA 1, qtN 2 0 60, qtN 3 0 60], [], [qvR 0, qvK (.ofNat 7)], zh87, []),
  [((7, [qtA 4, qtN 5 0 60, qtN 6 0 60], [], [], zh88, []), 0, 0)])
noncomputable def c37_1_e : List Ct := [c38_1, c40_0, c44_0]
noncomputable def c37_1_p0 : PE := (7, [0, 1, 2], (7, (zt0 []), [], [qvR 0, qvK (.ofNat 7), qvK (.ofNat 0)], zh88, []), symsL 4 0, some ((.ofNat 121), []), 0, 0)
noncomputable def c37_1_p1 : PE := (7, [0, 1, 2, 3], (9, [qtN 0 1 60, qtA 1, qtN 2 0 60, qtN 3 0 60, qtN 4 1 60, qtN 5 43 45, qtA 6, qtN 7 0 60, qtN 8 1 60], [], [qvR 0, qvK (.ofNat 7), qvS 4, qvS 5], zh93, []), symsL 4 0, some ((.ofNat 121), [(4, (.negSucc 0))]), 0, 0)
noncomputable def c37_1_pts : List PE := [c37_1_p0, c37_1_p1]
set_option maxRecDepth 100000 in
theorem c37_1_k : enCtF c37_1 c37_1_e (pkP (c37_1_pts ++ []) [0]) (none) (noF, noM, 128, 0, 4) 3000 = true := by decide +kernel
set_option maxRecDepth 100000 in
theorem c37_1_k0 : ptCtF c37_1 c37_1_e (pkP (c37_1_pts ++ []) [1]) (noF, noM, 128, 0, 4) 3000 c37_1_p0 = true := by decide +kernel
set_option maxRecDepth 100000 in
theorem c37_1_k1 : ptCtF c37_1 c37_1_e (pkP (c37_1_pts ++ []) [1]) (noF, noM, 128, 0, 4) 3000 c37_1_p1 = true := by decide +kernel
set_option maxRecDepth 100000 in
theorem c37_1_v : ValidC PPk c37_1 := ct_ok fpk ⟨noF_ok, noM_ok⟩ (d := 13) (ext := []) (pts := c37_1_pts) (env := c37_1_e) rfl (List.forall_mem_cons.mpr ⟨⟨c38_1_v, Nat.le_of_ble_eq_true rfl⟩, List.forall_mem_cons.mpr ⟨⟨c40_0_v, Nat.le_of_ble_eq_true rfl⟩, List.forall_mem_cons.mpr ⟨⟨c44_0_v, Nat.le_of_ble_eq_true rfl⟩, fun _ h => (by cases h)⟩⟩⟩) ext_nil (fun q h => (by cases h)) (enF c37_1_k) (List.forall_mem_cons.mpr ⟨⟨_, ptF c37_1_k0⟩, List.forall_mem_cons.mpr ⟨⟨_, ptF c37_1_k1⟩, fun _ h => (by cases h)⟩⟩)

noncomputable def c36_1 : Ct := (36, 15, (4, [qtN 0 0 60, qtA 1, qtN 2 0 60, qtN 3 0 60], [], [qvR 0, qvK (.ofNat 7)], zh87, []),
  [((7, [qtA 4, qtN 5 0 60, qtN 6 0 60], [], [], zh88, []), 0, 0)])
noncomputable def c36_1_e : List Ct := [c37_1, c40_0, c44_0]
noncomputable def c36_1_pts : List PE := []
set_option maxRecDepth 100000 in
theorem c36_1_k : enCtF c36_1 c36_1_e (pkP (c36_1_pts ++ []) []) (none) noH 3000 = true := by decide +kernel
set_option maxRecDepth 100000 in
theorem c36_1_v : ValidC PPk c36_1 := ct_ok fpk noH_ok (d := 14) (ext := []) (pts := c36_1_pts) (env := c36_1_e) rfl (List.forall_mem_cons.mpr ⟨⟨c37_1_v, Nat.le_of_ble_eq_true rfl⟩, List.forall_mem_cons.mpr ⟨⟨c40_0_v, Nat.le_of_ble_eq_true rfl⟩, List.forall_mem_cons.mpr ⟨⟨c44_0_v, Nat.le_of_ble_eq_true rfl⟩, fun _ h => (by cases h)⟩⟩⟩) ext_nil (fun q h => (by cases h)) (enF c36_1_k) (fun _ h => (by cases h))

noncomputable def c35_1 : Ct := (35, 16, (4, [qtN 0 0 60, qtA 1, qtN 2 0 60, qtN 3 0 60], [], [qvR 0, qvK (.ofNat 7)], zh87, []),
  [((7, [qtA 4, qtN 5 0 60, qtN 6 0 60], [], [], zh88, []), 0, 0)])
noncomputable def c35_1_e : List Ct := [c36_1, c40_0, c44_0]
noncomputable def c35_1_p0 : PE := (7, [0, 1, 2], (8, [qtN 0 0 60, qtA 1, qtN 2 0 60, qtN 3 0 60, qtN 4 0 60, qtA 5, qtN 6 0 60, qtN 7 0 60], [], [qvR 0, qvK (.ofNat 7), qvS 4], zh90, []), symsL 4 0, some ((.ofNat 121), [(4, (.negSucc 0))]), 0, 0)
noncomputable def c35_1_pts : List PE := [c35_1_p0]
set_option maxRecDepth 100000 in
theorem c35_1_k : enCtF c35_1 c35_1_e (pkP (c35_1_pts ++ []) [0]) (none) (noF, noM, 128, 0, 4) 3000 = true := by decide +kernel
set_option maxRecDepth 100000 in
theorem c35_1_k0 : ptCtF c35_1 c35_1_e (pkP (c35_1_pts ++ []) [0]) (noF, noM, 128, 0, 4) 3000 c35_1_p0 = true := by decide +kernel
set_option maxRecDepth 100000 in
theorem c35_1_v : ValidC PPk c35_1 := ct_ok fpk ⟨noF_ok, noM_ok⟩ (d := 15) (ext := []) (pts := c35_1_pts) (env := c35_1_e) rfl (List.forall_mem_cons.mpr ⟨⟨c36_1_v, Nat.le_of_ble_eq_true rfl⟩, List.forall_mem_cons.mpr ⟨⟨c40_0_v, Nat.le_of_ble_eq_true rfl⟩, List.forall_mem_cons.mpr ⟨⟨c44_0_v, Nat.le_of_ble_eq_true rfl⟩, fun _ h => (by cases h)⟩⟩⟩) ext_nil (fun q h => (by cases h)) (enF c35_1_k) (List.forall_mem_cons.mpr ⟨⟨_, ptF c35_1_k0⟩, fun _ h => (by cases h)⟩)

noncomputable def c34_1 : Ct := (34, 17, (4, [qtN 0 0 60, qtA 1, qtN 2 0 60, qtN 3 0 60], [], [qvR 0, qvK (.ofNat 7)], zh87, []),
  [((7, [qtA 4, qtN 5 0 60, qtN 6 0 60], [], [], zh88, []), 0, 0)])
noncomputable def c34_1_e : List Ct := [c35_1, c40_0, c44_0]
noncomputable def c34_1_p0 : PE := (7, [0, 1, 2], (8, [qtN 0 0 60, qtA 1, qtN 2 0 60, qtN 3 0 60, qtN 4 0 60, qtA 5, qtN 6 0 60, qtN 7 0 60], [], [qvR 0, qvK (.ofNat 7), qvS 4], zh90, []), symsL 4 0, some ((.ofNat 121), [(4, (.negSucc 0))]), 0, 0)
noncomputable def c34_1_pts : List PE := [c34_1_p0]
set_option maxRecDepth 100000 in
theorem c34_1_k : enCtF c34_1 c34_1_e (pkP (c34_1_pts ++ []) [0]) (none) (noF, noM, 128, 0, 4) 3000 = true := by decide +kernel
set_option maxRecDepth 100000 in
theorem c34_1_k0 : ptCtF c34_1 c34_1_e (pkP (c34_1_pts ++ []) [0]) (noF, noM, 128, 0, 4) 3000 c34_1_p0 = true := by decide +kernel
set_option maxRecDepth 100000 in
theorem c34_1_v : ValidC PPk c34_1 := ct_ok fpk ⟨noF_ok, noM_ok⟩ (d := 16) (ext := []) (pts := c34_1_pts) (env := c34_1_e) rfl (List.forall_mem_cons.mpr ⟨⟨c35_1_v, Nat.le_of_ble_eq_true rfl⟩, List.forall_mem_cons.mpr ⟨⟨c40_0_v, Nat.le_of_ble_eq_true rfl⟩, List.forall_mem_cons.mpr ⟨⟨c44_0_v, Nat.le_of_ble_eq_true rfl⟩, fun _ h => (by cases h)⟩⟩⟩) ext_nil (fun q h => (by cases h)) (enF c34_1_k) (List.forall_mem_cons.mpr ⟨⟨_, ptF c34_1_k0⟩, fun _ h => (by cases h)⟩)

noncomputable def c45_2 : Ct := (45, 18, (4, [qtN 0 0 60, qtA 1, qtN 2 0 60, qtN 3 0 60], [((.ofNat 1), [(0, (.negSucc 0)), (2, (.ofNat 1))])], [qvR 0, qvK (.ofNat 6)], zh87, []),
  [((7, [qtA 4, qtN 5 0 60, qtN 6 0 60], [], [], zh88, []), 0, 0)])
noncomputable def c45_2_e : List Ct := [c34_1, c40_0, c43_0]
noncomputable def c45_2_pts : List PE := []
set_option maxRecDepth 100000 in
theorem c45_2_k : enCtF c45_2 c45_2_e (pkP (c45_2_pts ++ []) []) (none) noH 3000 = true := by decide +kernel
set_option maxRecDepth 100000 in
theorem c45_2_v : ValidC PPk c45_2 := ct_ok fpk noH_ok (d := 17) (ext := []) (pts := c45_2_pts) (env := c45_2_e) rfl (List.forall_mem_cons.mpr ⟨⟨c34_1_v, Nat.le_of_ble_eq_true rfl⟩, List.forall_mem_cons.mpr ⟨⟨c40_0_v, Nat.le_of_ble_eq_true rfl⟩, List.forall_mem_cons.mpr ⟨⟨c43_0_v, Nat.le_of_ble_eq_true rfl⟩, fun _ h => (by cases h)⟩⟩⟩) ext_nil (fun q h => (by cases h)) (enF c45_2_k) (fun _ h => (by cases h))

noncomputable def c41_4 : Ct := (41, 19, (5, [qtN 0 0 60, qtA 1, qtN 2 0 60, qtN 3 0 60, qtA 4], [((.ofNat 1), [(0, (.negSucc 0)), (2, (.ofNat 1))])], [qvR 0, qvS 4, qvK (.ofNat 6)], zh87, []),
  [((8, [qtA 5, qtN 6 0 60, qtN 7 0 60], [], [], zh90, []), 0, 0)])
noncomputable def c41_4_e : List Ct := [c42_0, c43_0, c44_0, c45_2]
noncomputable def c41_4_pts : List PE := []
set_option maxRecDepth 100000 in
theorem c41_4_k : enCtF c41_4 c41_4_e (pkP (c41_4_pts ++ []) []) (none) noH 3000 = true := by decide +kernel
set_option maxRecDepth 100000 in
theorem c41_4_v : ValidC PPk c41_4 := ct_ok fpk noH_ok (d := 18) (ext := []) (pts := c41_4_pts) (env := c41_4_e) rfl (List.forall_mem_cons.mpr ⟨⟨c42_0_v, Nat.le_of_ble_eq_true rfl⟩, List.forall_mem_cons.mpr ⟨⟨c43_0_v, Nat.le_of_ble_eq_true rfl⟩, List.forall_mem_cons.mpr ⟨⟨c44_0_v, Nat.le_of_ble_eq_true rfl⟩, List.forall_mem_cons.mpr ⟨⟨c45_2_v, Nat.le_of_ble_eq_true rfl⟩, fun _ h => (by cases h)⟩⟩⟩⟩) ext_nil (fun q h => (by cases h)) (enF c41_4_k) (fun _ h => (by cases h))

noncomputable def c41_5 : Ct := (41, 2, (6, [qtN 0 0 60, qtA 1, qtN 2 0 60, qtN 3 0 60], [], [qvR 0, qvK (.negSucc 0), qvK (.ofNat 6)], zh85, []),
  [((7, [qtA 6], [], [], zh86, []), 0, 0)])
noncomputable def c41_5_e : List Ct := [c43_0]
noncomputable def c41_5_pts : List PE := []
set_option maxRecDepth 100000 in
theorem c41_5_k : enCtF c41_5 c41_5_e (pkP (c41_5_pts ++ []) []) (none) noH 3000 = true := by decide +kernel
set_option maxRecDepth 100000 in
theorem c41_5_v : ValidC PPk c41_5 := ct_ok fpk noH_ok (d := 1) (ext := []) (pts := c41_5_pts) (env := c41_5_e) rfl (List.forall_mem_cons.mpr ⟨⟨c43_0_v, Nat.le_of_ble_eq_true rfl⟩, fun _ h => (by cases h)⟩) ext_nil (fun q h => (by cases h)) (enF c41_5_k) (fun _ h => (by cases h))

noncomputable def c39_2 : Ct := (39, 20, (4, [qtN 0 0 60, qtA 1, qtN 2 0 60, qtN 3 0 60], [], [qvR 0, qvK (.ofNat 6)], zh87, []),
  [((7, [qtA 4, qtN 5 0 60, qtN 6 0 60], [], [], zh88, []), 0, 0)])
noncomputable def c39_2_e : List Ct := [c40_0, c41_4, c41_5, c44_0]
noncomputable def c39_2_p0 : PE := (13, [0, 1, 2, 3, 4], (7, [qtN 0 1 60, (1, (.negSucc 0), (.negSucc 0)), qtN 2 0 60, qtN 3 0 60, qtN 4 0 127, qtN 5 0 60, qtN 6 0 59], [((.ofNat 1), [(0, (.negSucc 0)), (6, (.ofNat 1))])], [qvR 0, qvK (.ofNat 6), qvS 2, qvS 4, qvS 5], zh91, []), symsL 4 0, some ((.ofNat 182), [(5, (.negSucc 0))]), 0, 0)
noncomputable def c39_2_p1 : PE := (13, [0, 1, 2, 3, 4], (6, [qtN 0 0 60, qtA 1, qtN 2 0 60, qtN 3 0 60, qtN 4 0 60, qtN 5 0 60], [], [qvR 0, qvK (.ofNat 6), qvS 2, qvK (.negSucc 0), qvS 4], zh89, []), symsL 4 0, some ((.ofNat 182), [(4, (.negSucc 0))]), 0, 0)
noncomputable def c39_2_p2 : PE := (71, [0, 1, 2, 3, 4, 5], (10, [qtN 0 0 60, qtA 1, qtN 2 0 60, qtN 3 0 60, (4, (.negSucc 0), (.ofNat 127)), qtN 5 0 60, (6, (.negSucc 0), (.ofNat 59)), qtA 7, qtN 8 0 60, qtN 9 0 60], [], [qvR 0, qvK (.ofNat 6), qvS 2, qvS 4, qvS 5, qvS 6], zh92, []), symsL 4 0, some ((.ofNat 62), [(6, (.ofNat 1))]), 0, 0)
noncomputable def c39_2_pts : List PE := [c39_2_p0, c39_2_p1, c39_2_p2]
set_option maxRecDepth 100000 in
theorem c39_2_k : enCtF c39_2 c39_2_e (pkP (c39_2_pts ++ []) [1, 0]) (none) (noF, noM, 2361183241434822615040, 0, 4) 3000 = true := by decide +kernel
set_option maxRecDepth 100000 in
theorem c39_2_k0 : ptCtF c39_2 c39_2_e (pkP (c39_2_pts ++ []) [2, 1, 0]) (noF, noM, 2361183241434822615040, 0, 4) 3000 c39_2_p0 = true := by decide +kernel
set_option maxRecDepth 100000 in
theorem c39_2_k1 : ptCtF c39_2 c39_2_e (pkP (c39_2_pts ++ []) [2]) (noF, noM, 2361183241434822615040, 0, 4) 3000 c39_2_p1 = true := by decide +kernel
set_option maxRecDepth 100000 in
theorem c39_2_k2 : ptCtF c39_2 c39_2_e (pkP (c39_2_pts ++ []) [2]) (noF, noM, 2361183241434822615040, 0, 4) 3000 c39_2_p2 = true := by decide +kernel
set_option maxRecDepth 100000 in
theorem c39_2_v : ValidC PPk c39_2 := ct_ok fpk ⟨noF_ok, noM_ok⟩ (d := 19) (ext := []) (pts := c39_2_pts) (env := c39_2_e) rfl (List.forall_mem_cons.mpr ⟨⟨c40_0_v, Nat.le_of_ble_eq_true rfl⟩, List.forall_mem_cons.mpr ⟨⟨c41_4_v, Nat.le_of_ble_eq_true rfl⟩, List.forall_mem_cons.mpr ⟨⟨c41_5_v, Nat.le_of_ble_eq_true rfl⟩, List.forall_mem_cons.mpr ⟨⟨c44_0_v, Nat.le_of_ble_eq_true rfl⟩, fun _ h => (by cases h)⟩⟩⟩⟩) ext_nil (fun q h => (by cases h)) (enF c39_2_k) (List.forall_mem_cons.mpr ⟨⟨_, ptF c39_2_k0⟩, List.forall_mem_cons.mpr ⟨⟨_, ptF c39_2_k1⟩, List.forall_mem_cons.mpr ⟨⟨_, ptF c39_2_k2⟩, fun _ h => (by cases h)⟩⟩⟩)

noncomputable def c38_2 : Ct := (38, 21, (4, [qtN 0 0 60, qtA 1, qtN 2 0 60, qtN 3 0 60], [], [qvR 0, qvK (.ofNat 6)], zh87, []),
  [((7, [qtA 4, qtN 5 0 60, qtN 6 0 60], [], [], zh88, []), 0, 0)])
noncomputable def c38_2_e : List Ct := [c39_2, c40_0, c44_0]
noncomputable def c38_2_p0 : PE := (7, [0, 1, 2], (7, (zt0 []), [], [qvR 0, qvK (.ofNat 6), qvK (.ofNat 0)], zh88, []), symsL 4 0, some ((.ofNat 121), []), 0, 0)
noncomputable def c38_2_p1 : PE := (7, [0, 1, 2, 3], (9, [qtN 0 1 60, qtA 1, qtN 2 0 60, qtN 3 0 60, qtN 4 1 60, qtN 5 42 47, qtA 6, qtN 7 0 60, qtN 8 1 60], [], [qvR 0, qvK (.ofNat 6), qvS 4, qvS 5], zh93, []), symsL 4 0, some ((.ofNat 121), [(4, (.negSucc 0))]), 0, 0)
noncomputable def c38_2_pts : List PE := [c38_2_p0, c38_2_p1]
set_option maxRecDepth 100000 in
theorem c38_2_k : enCtF c38_2 c38_2_e (pkP (c38_2_pts ++ []) [0]) (none) (noF, noM, 128, 0, 4) 3000 = true := by decide +kernel
set_option maxRecDepth 100000 in
theorem c38_2_k0 : ptCtF c38_2 c38_2_e (pkP (c38_2_pts ++ []) [1]) (noF, noM, 128, 0, 4) 3000 c38_2_p0 = true := by decide +kernel
set_option maxRecDepth 100000 in
theorem c38_2_k1 : ptCtF c38_2 c38_2_e (pkP (c38_2_pts ++ []) [1]) (noF, noM, 128, 0, 4) 3000 c38_2_p1 = true := by decide +kernel
set_option maxRecDepth 100000 in
theorem c38_2_v : ValidC PPk c38_2 := ct_ok fpk ⟨noF_ok, noM_ok⟩ (d := 20) (ext := []) (pts := c38_2_pts) (env := c38_2_e) rfl (List.forall_mem_cons.mpr ⟨⟨c39_2_v, Nat.le_of_ble_eq_true rfl⟩, List.forall_mem_cons.mpr ⟨⟨c40_0_v, Nat.le_of_ble_eq_true rfl⟩, List.forall_mem_cons.mpr ⟨⟨c44_0_v, Nat.le_of_ble_eq_true rfl⟩, fun _ h => (by cases h)⟩⟩⟩) ext_nil (fun q h => (by cases h)) (enF c38_2_k) (List.forall_mem_cons.mpr ⟨⟨_, ptF c38_2_k0⟩, List.forall_mem_cons.mpr ⟨⟨_, ptF c38_2_k1⟩, fun _ h => (by cases h)⟩⟩)

noncomputable def c37_2 : Ct := (37, 22, (4, [qtN 0 0 60, qtA 1, qtN 2 0 60, qtN 3 0 60], [], [qvR 0, qvK (.ofNat 6)], zh87, []),
  [((7, [qtA 4, qtN 5 0 60, qtN 6 0 60], [], [], zh88, []), 0, 0)])
noncomputable def c37_2_e : List Ct := [c38_2, c40_0, c44_0]
noncomputable def c37_2_p0 : PE := (7, [0, 1, 2], (7, (zt0 []), [], [qvR 0, qvK (.ofNat 6), qvK (.ofNat 0)], zh88, []), symsL 4 0, some ((.ofNat 121), []), 0, 0)
noncomputable def c37_2_p1 : PE := (7, [0, 1, 2, 3], (9, [qtN 0 1 60, qtA 1, qtN 2 0 60, qtN 3 0 60, qtN 4 1 60, qtN 5 43 45, qtA 6, qtN 7 0 60, qtN 8 1 60], [], [qvR 0, qvK (.ofNat 6), qvS 4, qvS 5], zh93, []), symsL 4 0, some ((.ofNat 121), [(4, (.negSucc 0))]), 0, 0)
noncomputable def c37_2_pts : List PE := [c37_2_p0, c37_2_p1]
set_option maxRecDepth 100000 in
theorem c37_2_k : enCtF c37_2 c37_2_e (pkP (c37_2_pts ++ []) [0]) (none) (noF, noM, 128, 0, 4) 3000 = true := by decide +kernel
set_option maxRecDepth 100000 in
theorem c37_2_k0 : ptCtF c37_2 c37_2_e (pkP (c37_2_pts ++ []) [1]) (noF, noM, 128, 0, 4) 3000 c37_2_p0 = true := by decide +kernel
set_option maxRecDepth 100000 in
theorem c37_2_k1 : ptCtF c37_2 c37_2_e (pkP (c37_2_pts ++ []) [1]) (noF, noM, 128, 0, 4) 3000 c37_2_p1 = true := by decide +kernel
set_option maxRecDepth 100000 in
theorem c37_2_v : ValidC PPk c37_2 := ct_ok fpk ⟨noF_ok, noM_ok⟩ (d := 21) (ext := []) (pts := c37_2_pts) (env := c37_2_e) rfl (List.forall_mem_cons.mpr ⟨⟨c38_2_v, Nat.le_of_ble_eq_true rfl⟩, List.forall_mem_cons.mpr ⟨⟨c40_0_v, Nat.le_of_ble_eq_true rfl⟩, List.forall_mem_cons.mpr ⟨⟨c44_0_v, Nat.le_of_ble_eq_true rfl⟩, fun _ h => (by cases h)⟩⟩⟩) ext_nil (fun q h => (by cases h)) (enF c37_2_k) (List.forall_mem_cons.mpr ⟨⟨_, ptF c37_2_k0⟩, List.forall_mem_cons.mpr ⟨⟨_, ptF c37_2_k1⟩, fun _ h => (by cases h)⟩⟩)

noncomputable def c36_2 : Ct := (36, 23, (4, [qtN 0 0 60, qtA 1, qtN 2 0 60, qtN 3 0 60], [], [qvR 0, qvK (.ofNat 6)], zh87, []),
  [((7, [qtA 4, qtN 5 0 60, qtN 6 0 60], [], [], zh88, []), 0, 0)])
noncomputable def c36_2_e : List Ct := [c37_2, c40_0, c44_0]
noncomputable def c36_2_pts : List PE := []
set_option maxRecDepth 100000 in
theorem c36_2_k : enCtF c36_2 c36_2_e (pkP (c36_2_pts ++ []) []) (none) noH 3000 = true := by decide +kernel
set_option maxRecDepth 100000 in
theorem c36_2_v : ValidC PPk c36_2 := ct_ok fpk noH_ok (d := 22) (ext := []) (pts := c36_2_pts) (env := c36_2_e) rfl (List.forall_mem_cons.mpr ⟨⟨c37_2_v, Nat.le_of_ble_eq_true rfl⟩, List.forall_mem_cons.mpr ⟨⟨c40_0_v, Nat.le_of_ble_eq_true rfl⟩, List.forall_mem_cons.mpr ⟨⟨c44_0_v, Nat.le_of_ble_eq_true rfl⟩, fun _ h => (by cases h)⟩⟩⟩) ext_nil (fun q h => (by cases h)) (enF c36_2_k) (fun _ h => (by cases h))

noncomputable def c35_2 : Ct := (35, 24, (4, [qtN 0 0 60, qtA 1, qtN 2 0 60, qtN 3 0 60], [], [qvR 0, qvK (.ofNat 6)], zh87, []),
  [((7, [qtA 4, qtN 5 0 60, qtN 6 0 60], [], [], zh88, []), 0, 0)])
noncomputable def c35_2_e : List Ct := [c36_2, c40_0, c44_0]
noncomputable def c35_2_p0 : PE := (7, [0, 1, 2], (8, [qtN 0 0 60, qtA 1, qtN 2 0 60, qtN 3 0 60, qtN 4 0 60, qtA 5, qtN 6 0 60, qtN 7 0 60], [], [qvR 0, qvK (.ofNat 6), qvS 4], zh90, []), symsL 4 0, some ((.ofNat 121), [(4, (.negSucc 0))]), 0, 0)
noncomputable def c35_2_pts : List PE := [c35_2_p0]
set_option maxRecDepth 100000 in
theorem c35_2_k : enCtF c35_2 c35_2_e (pkP (c35_2_pts ++ []) [0]) (none) (noF, noM, 128, 0, 4) 3000 = true := by decide +kernel
set_option maxRecDepth 100000 in
theorem c35_2_k0 : ptCtF c35_2 c35_2_e (pkP (c35_2_pts ++ []) [0]) (noF, noM, 128, 0, 4) 3000 c35_2_p0 = true := by decide +kernel
set_option maxRecDepth 100000 in
theorem c35_2_v : ValidC PPk c35_2 := ct_ok fpk ⟨noF_ok, noM_ok⟩ (d := 23) (ext := []) (pts := c35_2_pts) (env := c35_2_e) rfl (List.forall_mem_cons.mpr ⟨⟨c36_2_v, Nat.le_of_ble_eq_true rfl⟩, List.forall_mem_cons.mpr ⟨⟨c40_0_v, Nat.le_of_ble_eq_true rfl⟩, List.forall_mem_cons.mpr ⟨⟨c44_0_v, Nat.le_of_ble_eq_true rfl⟩, fun _ h => (by cases h)⟩⟩⟩) ext_nil (fun q h => (by cases h)) (enF c35_2_k) (List.forall_mem_cons.mpr ⟨⟨_, ptF c35_2_k0⟩, fun _ h => (by cases h)⟩)

noncomputable def c34_2 : Ct := (34, 25, (4, [qtN 0 0 60, qtA 1, qtN 2 0 60, qtN 3 0 60], [], [qvR 0, qvK (.ofNat 6)], zh87, []),
  [((7, [qtA 4, qtN 5 0 60, qtN 6 0 60], [], [], zh88, []), 0, 0)])
noncomputable def c34_2_e : List Ct := [c35_2, c40_0, c44_0]
noncomputable def c34_2_p0 : PE := (7, [0, 1, 2], (8, [qtN 0 0 60, qtA 1, qtN 2 0 60, qtN 3 0 60, qtN 4 0 60, qtA 5, qtN 6 0 60, qtN 7 0 60], [], [qvR 0, qvK (.ofNat 6), qvS 4], zh90, []), symsL 4 0, some ((.ofNat 121), [(4, (.negSucc 0))]), 0, 0)
noncomputable def c34_2_pts : List PE := [c34_2_p0]
set_option maxRecDepth 100000 in
theorem c34_2_k : enCtF c34_2 c34_2_e (pkP (c34_2_pts ++ []) [0]) (none) (noF, noM, 128, 0, 4) 3000 = true := by decide +kernel
set_option maxRecDepth 100000 in
theorem c34_2_k0 : ptCtF c34_2 c34_2_e (pkP (c34_2_pts ++ []) [0]) (noF, noM, 128, 0, 4) 3000 c34_2_p0 = true := by decide +kernel
set_option maxRecDepth 100000 in
theorem c34_2_v : ValidC PPk c34_2 := ct_ok fpk ⟨noF_ok, noM_ok⟩ (d := 24) (ext := []) (pts := c34_2_pts) (env := c34_2_e) rfl (List.forall_mem_cons.mpr ⟨⟨c35_2_v, Nat.le_of_ble_eq_true rfl⟩, List.forall_mem_cons.mpr ⟨⟨c40_0_v, Nat.le_of_ble_eq_true rfl⟩, List.forall_mem_cons.mpr ⟨⟨c44_0_v, Nat.le_of_ble_eq_true rfl⟩, fun _ h => (by cases h)⟩⟩⟩) ext_nil (fun q h => (by cases h)) (enF c34_2_k) (List.forall_mem_cons.mpr ⟨⟨_, ptF c34_2_k0⟩, fun _ h => (by cases h)⟩)

noncomputable def c45_3 : Ct := (45, 26, (4, [qtN 0 0 60, qtA 1, qtN 2 0 60, qtN 3 0 60], [((.ofNat 1), [(0, (.negSucc 0)), (2, (.ofNat 1))])], [qvR 0, qvK (.ofNat 5)], zh87, []),
  [((7, [qtA 4, qtN 5 0 60, qtN 6 0 60], [], [], zh88, []), 0, 0)])
noncomputable def c45_3_e : List Ct := [c34_2, c40_0, c43_0]
noncomputable def c45_3_pts : List PE := []
set_option maxRecDepth 100000 in
theorem c45_3_k : enCtF c45_3 c45_3_e (pkP (c45_3_pts ++ []) []) (none) noH 3000 = true := by decide +kernel
set_option maxRecDepth 100000 in
theorem c45_3_v : ValidC PPk c45_3 := ct_ok fpk noH_ok (d := 25) (ext := []) (pts := c45_3_pts) (env := c45_3_e) rfl (List.forall_mem_cons.mpr ⟨⟨c34_2_v, Nat.le_of_ble_eq_true rfl⟩, List.forall_mem_cons.mpr ⟨⟨c40_0_v, Nat.le_of_ble_eq_true rfl⟩, List.forall_mem_cons.mpr ⟨⟨c43_0_v, Nat.le_of_ble_eq_true rfl⟩, fun _ h => (by cases h)⟩⟩⟩) ext_nil (fun q h => (by cases h)) (enF c45_3_k) (fun _ h => (by cases h))

noncomputable def c41_6 : Ct := (41, 27, (5, [qtN 0 0 60, qtA 1, qtN 2 0 60, qtN 3 0 60, qtA 4], [((.ofNat 1), [(0, (.negSucc 0)), (2, (.ofNat 1))])], [qvR 0, qvS 4, qvK (.ofNat 5)], zh87, []),
  [((8, [qtA 5, qtN 6 0 60, qtN 7 0 60], [], [], zh90, []), 0, 0)])
noncomputable def c41_6_e : List Ct := [c42_0, c43_0, c44_0, c45_3]
noncomputable def c41_6_pts : List PE := []
set_option maxRecDepth 100000 in
theorem c41_6_k : enCtF c41_6 c41_6_e (pkP (c41_6_pts ++ []) []) (none) noH 3000 = true := by decide +kernel
set_option maxRecDepth 100000 in
theorem c41_6_v : ValidC PPk c41_6 := ct_ok fpk noH_ok (d := 26) (ext := []) (pts := c41_6_pts) (env := c41_6_e) rfl (List.forall_mem_cons.mpr ⟨⟨c42_0_v, Nat.le_of_ble_eq_true rfl⟩, List.forall_mem_cons.mpr ⟨⟨c43_0_v, Nat.le_of_ble_eq_true rfl⟩, List.forall_mem_cons.mpr ⟨⟨c44_0_v, Nat.le_of_ble_eq_true rfl⟩, List.forall_mem_cons.mpr ⟨⟨c45_3_v, Nat.le_of_ble_eq_true rfl⟩, fun _ h => (by cases h)⟩⟩⟩⟩) ext_nil (fun q h => (by cases h)) (enF c41_6_k) (fun _ h => (by cases h))

noncomputable def c41_7 : Ct := (41, 2, (6, [qtN 0 0 60, qtA 1, qtN 2 0 60, qtN 3 0 60], [], [qvR 0, qvK (.negSucc 0), qvK (.ofNat 5)], zh85, []),
  [((7, [qtA 6], [], [], zh86, []), 0, 0)])
noncomputable def c41_7_e : List Ct := [c43_0]
noncomputable def c41_7_pts : List PE := []
set_option maxRecDepth 100000 in
theorem c41_7_k : enCtF c41_7 c41_7_e (pkP (c41_7_pts ++ []) []) (none) noH 3000 = true := by decide +kernel
set_option maxRecDepth 100000 in
theorem c41_7_v : ValidC PPk c41_7 := ct_ok fpk noH_ok (d := 1) (ext := []) (pts := c41_7_pts) (env := c41_7_e) rfl (List.forall_mem_cons.mpr ⟨⟨c43_0_v, Nat.le_of_ble_eq_true rfl⟩, fun _ h => (by cases h)⟩) ext_nil (fun q h => (by cases h)) (enF c41_7_k) (fun _ h => (by cases h))

noncomputable def c39_3 : Ct := (39, 28, (4, [qtN 0 0 60, qtA 1, qtN 2 0 60, qtN 3 0 60], [], [qvR 0, qvK (.ofNat 5)], zh87, []),
  [((7, [qtA 4, qtN 5 0 60, qtN 6 0 60], [], [], zh88, []), 0, 0)])
noncomputable def c39_3_e : List Ct := [c40_0, c41_6, c41_7, c44_0]
noncomputable def c39_3_p0 : PE := (13, [0, 1, 2, 3, 4], (7, [qtN 0 1 60, (1, (.negSucc 0), (.negSucc 0)), qtN 2 0 60, qtN 3 0 60, qtN 4 0 127, qtN 5 0 60, qtN 6 0 59], [((.ofNat 1), [(0, (.negSucc 0)), (6, (.ofNat 1))])], [qvR 0, qvK (.ofNat 5), qvS 2, qvS 4, qvS 5], zh91, []), symsL 4 0, some ((.ofNat 182), [(5, (.negSucc 0))]), 0, 0)
noncomputable def c39_3_p1 : PE := (13, [0, 1, 2, 3, 4], (6, [qtN 0 0 60, qtA 1, qtN 2 0 60, qtN 3 0 60, qtN 4 0 60, qtN 5 0 60], [], [qvR 0, qvK (.ofNat 5), qvS 2, qvK (.negSucc 0), qvS 4], zh89, []), symsL 4 0, some ((.ofNat 182), [(4, (.negSucc 0))]), 0, 0)
noncomputable def c39_3_p2 : PE := (71, [0, 1, 2, 3, 4, 5], (10, [qtN 0 0 60, qtA 1, qtN 2 0 60, qtN 3 0 60, (4, (.negSucc 0), (.ofNat 127)), qtN 5 0 60, (6, (.negSucc 0), (.ofNat 59)), qtA 7, qtN 8 0 60, qtN 9 0 60], [], [qvR 0, qvK (.ofNat 5), qvS 2, qvS 4, qvS 5, qvS 6], zh92, []), symsL 4 0, some ((.ofNat 62), [(6, (.ofNat 1))]), 0, 0)
noncomputable def c39_3_pts : List PE := [c39_3_p0, c39_3_p1, c39_3_p2]
set_option maxRecDepth 100000 in
theorem c39_3_k : enCtF c39_3 c39_3_e (pkP (c39_3_pts ++ []) [1, 0]) (none) (noF, noM, 2361183241434822615040, 0, 4) 3000 = true := by decide +kernel
set_option maxRecDepth 100000 in
theorem c39_3_k0 : ptCtF c39_3 c39_3_e (pkP (c39_3_pts ++ []) [2, 1, 0]) (noF, noM, 2361183241434822615040, 0, 4) 3000 c39_3_p0 = true := by decide +kernel
set_option maxRecDepth 100000 in
theorem c39_3_k1 : ptCtF c39_3 c39_3_e (pkP (c39_3_pts ++ []) [2]) (noF, noM, 2361183241434822615040, 0, 4) 3000 c39_3_p1 = true := by decide +kernel
set_option maxRecDepth 100000 in
theorem c39_3_k2 : ptCtF c39_3 c39_3_e (pkP (c39_3_pts ++ []) [2]) (noF, noM, 2361183241434822615040, 0, 4) 3000 c39_3_p2 = true := by decide +kernel
set_option maxRecDepth 100000 in
theorem c39_3_v : ValidC PPk c39_3 := ct_ok fpk ⟨noF_ok, noM_ok⟩ (d := 27) (ext := []) (pts := c39_3_pts) (env := c39_3_e) rfl (List.forall_mem_cons.mpr ⟨⟨c40_0_v, Nat.le_of_ble_eq_true rfl⟩, List.forall_mem_cons.mpr ⟨⟨c41_6_v, Nat.le_of_ble_eq_true rfl⟩, List.forall_mem_cons.mpr ⟨⟨c41_7_v, Nat.le_of_ble_eq_true rfl⟩, List.forall_mem_cons.mpr ⟨⟨c44_0_v, Nat.le_of_ble_eq_true rfl⟩, fun _ h => (by cases h)⟩⟩⟩⟩) ext_nil (fun q h => (by cases h)) (enF c39_3_k) (List.forall_mem_cons.mpr ⟨⟨_, ptF c39_3_k0⟩, List.forall_mem_cons.mpr ⟨⟨_, ptF c39_3_k1⟩, List.forall_mem_cons.mpr ⟨⟨_, ptF c39_3_k2⟩, fun _ h => (by cases h)⟩⟩⟩)

noncomputable def c38_3 : Ct := (38, 29, (4, [qtN 0 0 60, qtA 1, qtN 2 0 60, qtN 3 0 60], [], [qvR 0, qvK (.ofNat 5)], zh87, []),
  [((7, [qtA 4, qtN 5 0 60, qtN 6 0 60], [], [], zh88, []), 0, 0)])
noncomputable def c38_3_e : List Ct := [c39_3, c40_0, c44_0]
noncomputable def c38_3_p0 : PE := (7, [0, 1, 2], (7, (zt0 []), [], [qvR 0, qvK (.ofNat 5), qvK (.ofNat 0)], zh88, []), symsL 4 0, some ((.ofNat 121), []), 0, 0)
noncomputable def c38_3_p1 : PE := (7, [0, 1, 2, 3], (9, [qtN 0 1 60, qtA 1, qtN 2 0 60, qtN 3 0 60, qtN 4 1 60, qtN 5 42 47, qtA 6, qtN 7 0 60, qtN 8 1 60], [], [qvR 0, qvK (.ofNat 5), qvS 4, qvS 5], zh93, []), symsL 4 0, some ((.ofNat 121), [(4, (.negSucc 0))]), 0, 0)
noncomputable def c38_3_pts : List PE := [c38_3_p0, c38_3_p1]
set_option maxRecDepth 100000 in
theorem c38_3_k : enCtF c38_3 c38_3_e (pkP (c38_3_pts ++ []) [0]) (none) (noF, noM, 128, 0, 4) 3000 = true := by decide +kernel
set_option maxRecDepth 100000 in
theorem c38_3_k0 : ptCtF c38_3 c38_3_e (pkP (c38_3_pts ++ []) [1]) (noF, noM, 128, 0, 4) 3000 c38_3_p0 = true := by decide +kernel
set_option maxRecDepth 100000 in
theorem c38_3_k1 : ptCtF c38_3 c38_3_e (pkP (c38_3_pts ++ []) [1]) (noF, noM, 128, 0, 4) 3000 c38_3_p1 = true := by decide +kernel
set_option maxRecDepth 100000 in
theorem c38_3_v : ValidC PPk c38_3 := ct_ok fpk ⟨noF_ok, noM_ok⟩ (d := 28) (ext := []) (pts := c38_3_pts) (env := c38_3_e) rfl (List.forall_mem_cons.mpr ⟨⟨c39_3_v, Nat.le_of_ble_eq_true rfl⟩, List.forall_mem_cons.mpr ⟨⟨c40_0_v, Nat.le_of_ble_eq_true rfl⟩, List.forall_mem_cons.mpr ⟨⟨c44_0_v, Nat.le_of_ble_eq_true rfl⟩, fun _ h => (by cases h)⟩⟩⟩) ext_nil (fun q h => (by cases h)) (enF c38_3_k) (List.forall_mem_cons.mpr ⟨⟨_, ptF c38_3_k0⟩, List.forall_mem_cons.mpr ⟨⟨_, ptF c38_3_k1⟩, fun _ h => (by cases h)⟩⟩)

noncomputable def c37_3 : Ct := (37, 30, (4, [qtN 0 0 60, qtA 1, qtN 2 0 60, qtN 3 0 60], [], [qvR 0, qvK (.ofNat 5)], zh87, []),
  [((7, [qtA 4, qtN 5 0 60, qtN 6 0 60], [], [], zh88, []), 0, 0)])
noncomputable def c37_3_e : List Ct := [c38_3, c40_0, c44_0]
noncomputable def c37_3_p0 : PE := (7, [0, 1, 2], (7, (zt0 []), [], [qvR 0, qvK (.ofNat 5), qvK (.ofNat 0)], zh88, []), symsL 4 0, some ((.ofNat 121), []), 0, 0)
noncomputable def c37_3_p1 : PE := (7, [0, 1, 2, 3], (9, [qtN 0 1 60, qtA 1, qtN 2 0 60, qtN 3 0 60, qtN 4 1 60, qtN 5 43 45, qtA 6, qtN 7 0 60, qtN 8 1 60], [], [qvR 0, qvK (.ofNat 5), qvS 4, qvS 5], zh93, []), symsL 4 0, some ((.ofNat 121), [(4, (.negSucc 0))]), 0, 0)
noncomputable def c37_3_pts : List PE := [c37_3_p0, c37_3_p1]
set_option maxRecDepth 100000 in
theorem c37_3_k : enCtF c37_3 c37_3_e (pkP (c37_3_pts ++ []) [0]) (none) (noF, noM, 128, 0, 4) 3000 = true := by decide +kernel
set_option maxRecDepth 100000 in
theorem c37_3_k0 : ptCtF c37_3 c37_3_e (pkP (c37_3_pts ++ []) [1]) (noF, noM, 128, 0, 4) 3000 c37_3_p0 = true := by decide +kernel
set_option maxRecDepth 100000 in
theorem c37_3_k1 : ptCtF c37_3 c37_3_e (pkP (c37_3_pts ++ []) [1]) (noF, noM, 128, 0, 4) 3000 c37_3_p1 = true := by decide +kernel
set_option maxRecDepth 100000 in
theorem c37_3_v : ValidC PPk c37_3 := ct_ok fpk ⟨noF_ok, noM_ok⟩ (d := 29) (ext := []) (pts := c37_3_pts) (env := c37_3_e) rfl (List.forall_mem_cons.mpr ⟨⟨c38_3_v, Nat.le_of_ble_eq_true rfl⟩, List.forall_mem_cons.mpr ⟨⟨c40_0_v, Nat.le_of_ble_eq_true rfl⟩, List.forall_mem_cons.mpr ⟨⟨c44_0_v, Nat.le_of_ble_eq_true rfl⟩, fun _ h => (by cases h)⟩⟩⟩) ext_nil (fun q h => (by cases h)) (enF c37_3_k) (List.forall_mem_cons.mpr ⟨⟨_, ptF c37_3_k0⟩, List.forall_mem_cons.mpr ⟨⟨_, ptF c37_3_k1⟩, fun _ h => (by cases h)⟩⟩)

noncomputable def c36_3 : Ct := (36, 31, (4, [qtN 0 0 60, qtA 1, qtN 2 0 60, qtN 3 0 60], [], [qvR 0, qvK (.ofNat 5)], zh87, []),
  [((7, [qtA 4, qtN 5 0 60, qtN 6 0 60], [], [], zh88, []), 0, 0)])
noncomputable def c36_3_e : List Ct := [c37_3, c40_0, c44_0]
noncomputable def c36_3_pts : List PE := []
set_option maxRecDepth 100000 in
theorem c36_3_k : enCtF c36_3 c36_3_e (pkP (c36_3_pts ++ []) []) (none) noH 3000 = true := by decide +kernel
set_option maxRecDepth 100000 in
theorem c36_3_v : ValidC PPk c36_3 := ct_ok fpk noH_ok (d := 30) (ext := []) (pts := c36_3_pts) (env := c36_3_e) rfl (List.forall_mem_cons.mpr ⟨⟨c37_3_v, Nat.le_of_ble_eq_true rfl⟩, List.forall_mem_cons.mpr ⟨⟨c40_0_v, Nat.le_of_ble_eq_true rfl⟩, List.forall_mem_cons.mpr ⟨⟨c44_0_v, Nat.le_of_ble_eq_true rfl⟩, fun _ h => (by cases h)⟩⟩⟩) ext_nil (fun q h => (by cases h)) (enF c36_3_k) (fun _ h => (by cases h))

noncomputable def c35_3 : Ct := (35, 32, (4, [qtN 0 0 60, qtA 1, qtN 2 0 60, qtN 3 0 60], [], [qvR 0, qvK (.ofNat 5)], zh87, []),
  [((7, [qtA 4, qtN 5 0 60, qtN 6 0 60], [], [], zh88, []), 0, 0)])
noncomputable def c35_3_e : List Ct := [c36_3, c40_0, c44_0]
noncomputable def c35_3_p0 : PE := (7, [0, 1, 2], (8, [qtN 0 0 60, qtA 1, qtN 2 0 60, qtN 3 0 60, qtN 4 0 60, qtA 5, qtN 6 0 60, qtN 7 0 60], [], [qvR 0, qvK (.ofNat 5), qvS 4], zh90, []), symsL 4 0, some ((.ofNat 121), [(4, (.negSucc 0))]), 0, 0)
noncomputable def c35_3_pts : List PE := [c35_3_p0]
set_option maxRecDepth 100000 in
theorem c35_3_k : enCtF c35_3 c35_3_e (pkP (c35_3_pts ++ []) [0]) (none) (noF, noM, 128, 0, 4) 3000 = true := by decide +kernel
set_option maxRecDepth 100000 in
theorem c35_3_k0 : ptCtF c35_3 c35_3_e (pkP (c35_3_pts ++ []) [0]) (noF, noM, 128, 0, 4) 3000 c35_3_p0 = true := by decide +kernel
set_option maxRecDepth 100000 in
theorem c35_3_v : ValidC PPk c35_3 := ct_ok fpk ⟨noF_ok, noM_ok⟩ (d := 31) (ext := []) (pts := c35_3_pts) (env := c35_3_e) rfl (List.forall_mem_cons.mpr ⟨⟨c36_3_v, Nat.le_of_ble_eq_true rfl⟩, List.forall_mem_cons.mpr ⟨⟨c40_0_v, Nat.le_of_ble_eq_true rfl⟩, List.forall_mem_cons.mpr ⟨⟨c44_0_v, Nat.le_of_ble_eq_true rfl⟩, fun _ h => (by cases h)⟩⟩⟩) ext_nil (fun q h => (by cases h)) (enF c35_3_k) (List.forall_mem_cons.mpr ⟨⟨_, ptF c35_3_k0⟩, fun _ h => (by cases h)⟩)

noncomputable def c34_3 : Ct := (34, 33, (4, [qtN 0 0 60, qtA 1, qtN 2 0 60, qtN 3 0 60], [], [qvR 0, qvK (.ofNat 5)], zh87, []),
  [((7, [qtA 4, qtN 5 0 60, qtN 6 0 60], [], [], zh88, []), 0, 0)])
noncomputable def c34_3_e : List Ct := [c35_3, c40_0, c44_0]
noncomputable def c34_3_p0 : PE := (7, [0, 1, 2], (8, [qtN 0 0 60, qtA 1, qtN 2 0 60, qtN 3 0 60, qtN 4 0 60, qtA 5, qtN 6 0 60, qtN 7 0 60], [], [qvR 0, qvK (.ofNat 5), qvS 4], zh90, []), symsL 4 0, some ((.ofNat 121), [(4, (.negSucc 0))]), 0, 0)
noncomputable def c34_3_pts : List PE := [c34_3_p0]
set_option maxRecDepth 100000 in
theorem c34_3_k : enCtF c34_3 c34_3_e (pkP (c34_3_pts ++ []) [0]) (none) (noF, noM, 128, 0, 4) 3000 = true := by decide +kernel
set_option maxRecDepth 100000 in
theorem c34_3_k0 : ptCtF c34_3 c34_3_e (pkP (c34_3_pts ++ []) [0]) (noF, noM, 128, 0, 4) 3000 c34_3_p0 = true := by decide +kernel
set_option maxRecDepth 100000 in
theorem c34_3_v : ValidC PPk c34_3 := ct_ok fpk ⟨noF_ok, noM_ok⟩ (d := 32) (ext := []) (pts := c34_3_pts) (env := c34_3_e) rfl (List.forall_mem_cons.mpr ⟨⟨c35_3_v, Nat.le_of_ble_eq_true rfl⟩, List.forall_mem_cons.mpr ⟨⟨c40_0_v, Nat.le_of_ble_eq_true rfl⟩, List.forall_mem_cons.mpr ⟨⟨c44_0_v, Nat.le_of_ble_eq_true rfl⟩, fun _ h => (by cases h)⟩⟩⟩) ext_nil (fun q h => (by cases h)) (enF c34_3_k) (List.forall_mem_cons.mpr ⟨⟨_, ptF c34_3_k0⟩, fun _ h => (by cases h)⟩)

noncomputable def c45_4 : Ct := (45, 34, (4, [qtN 0 0 60, qtA 1, qtN 2 0 60, qtN 3 0 60], [((.ofNat 1), [(0, (.negSucc 0)), (2, (.ofNat 1))])], [qvR 0, qvK (.ofNat 4)], zh87, []),
  [((7, [qtA 4, qtN 5 0 60, qtN 6 0 60], [], [], zh88, []), 0, 0)])
noncomputable def c45_4_e : List Ct := [c34_3, c40_0, c43_0]
noncomputable def c45_4_pts : List PE := []
set_option maxRecDepth 100000 in
theorem c45_4_k : enCtF c45_4 c45_4_e (pkP (c45_4_pts ++ []) []) (none) noH 3000 = true := by decide +kernel
set_option maxRecDepth 100000 in
theorem c45_4_v : ValidC PPk c45_4 := ct_ok fpk noH_ok (d := 33) (ext := []) (pts := c45_4_pts) (env := c45_4_e) rfl (List.forall_mem_cons.mpr ⟨⟨c34_3_v, Nat.le_of_ble_eq_true rfl⟩, List.forall_mem_cons.mpr ⟨⟨c40_0_v, Nat.le_of_ble_eq_true rfl⟩, List.forall_mem_cons.mpr ⟨⟨c43_0_v, Nat.le_of_ble_eq_true rfl⟩, fun _ h => (by cases h)⟩⟩⟩) ext_nil (fun q h => (by cases h)) (enF c45_4_k) (fun _ h => (by cases h))

noncomputable def c41_8 : Ct := (41, 35, (5, [qtN 0 0 60, qtA 1, qtN 2 0 60, qtN 3 0 60, qtA 4], [((.ofNat 1), [(0, (.negSucc 0)), (2, (.ofNat 1))])], [qvR 0, qvS 4, qvK (.ofNat 4)], zh87, []),
  [((8, [qtA 5, qtN 6 0 60, qtN 7 0 60], [], [], zh90, []), 0, 0)])
noncomputable def c41_8_e : List Ct := [c42_0, c43_0, c44_0, c45_4]
noncomputable def c41_8_pts : List PE := []
set_option maxRecDepth 100000 in
theorem c41_8_k : enCtF c41_8 c41_8_e (pkP (c41_8_pts ++ []) []) (none) noH 3000 = true := by decide +kernel
set_option maxRecDepth 100000 in
theorem c41_8_v : ValidC PPk c41_8 := ct_ok fpk noH_ok (d := 34) (ext := []) (pts := c41_8_pts) (env := c41_8_e) rfl (List.forall_mem_cons.mpr ⟨⟨c42_0_v, Nat.le_of_ble_eq_true rfl⟩, List.forall_mem_cons.mpr ⟨⟨c43_0_v, Nat.le_of_ble_eq_true rfl⟩, List.forall_mem_cons.mpr ⟨⟨c44_0_v, Nat.le_of_ble_eq_true rfl⟩, List.forall_mem_cons.mpr ⟨⟨c45_4_v, Nat.le_of_ble_eq_true rfl⟩, fun _ h => (by cases h)⟩⟩⟩⟩) ext_nil (fun q h => (by cases h)) (enF c41_8_k) (fun _ h => (by cases h))

noncomputable def c41_9 : Ct := (41, 2, (6, [qtN 0 0 60, qtA 1, qtN 2 0 60, qtN 3 0 60], [], [qvR 0, qvK (.negSucc 0), qvK (.ofNat 4)], zh85, []),
  [((7, [qtA 6], [], [], zh86, []), 0, 0)])
noncomputable def c41_9_e : List Ct := [c43_0]
noncomputable def c41_9_pts : List PE := []
set_option maxRecDepth 100000 in
theorem c41_9_k : enCtF c41_9 c41_9_e (pkP (c41_9_pts ++ []) []) (none) noH 3000 = true := by decide +kernel
set_option maxRecDepth 100000 in
theorem c41_9_v : ValidC PPk c41_9 := ct_ok fpk noH_ok (d := 1) (ext := []) (pts := c41_9_pts) (env := c41_9_e) rfl (List.forall_mem_cons.mpr ⟨⟨c43_0_v, Nat.le_of_ble_eq_true rfl⟩, fun _ h => (by cases h)⟩) ext_nil (fun q h => (by cases h)) (enF c41_9_k) (fun _ h => (by cases h))

noncomputable def c39_4 : Ct := (39, 36, (4, [qtN 0 0 60, qtA 1, qtN 2 0 60, qtN 3 0 60], [], [qvR 0, qvK (.ofNat 4)], zh87, []),
  [((7, [qtA 4, qtN 5 0 60, qtN 6 0 60], [], [], zh88, []), 0, 0)])
noncomputable def c39_4_e : List Ct := [c40_0, c41_8, c41_9, c44_0]
noncomputable def c39_4_p0 : PE := (13, [0, 1, 2, 3, 4], (7, [qtN 0 1 60, (1, (.negSucc 0), (.negSucc 0)), qtN 2 0 60, qtN 3 0 60, qtN 4 0 127, qtN 5 0 60, qtN 6 0 59], [((.ofNat 1), [(0, (.negSucc 0)), (6, (.ofNat 1))])], [qvR 0, qvK (.ofNat 4), qvS 2, qvS 4, qvS 5], zh91, []), symsL 4 0, some ((.ofNat 182), [(5, (.negSucc 0))]), 0, 0)
noncomputable def c39_4_p1 : PE := (13, [0, 1, 2, 3, 4], (6, [qtN 0 0 60, qtA 1, qtN 2 0 60, qtN 3 0 60, qtN 4 0 60, qtN 5 0 60], [], [qvR 0, qvK (.ofNat 4), qvS 2, qvK (.negSucc 0), qvS 4], zh89, []), symsL 4 0, some ((.ofNat 182), [(4, (.negSucc 0))]), 0, 0)
noncomputable def c39_4_p2 : PE := (71, [0, 1, 2, 3, 4, 5], (10, [qtN 0 0 60, qtA 1, qtN 2 0 60, qtN 3 0 60, (4, (.negSucc 0), (.ofNat 127)), qtN 5 0 60, (6, (.negSucc 0), (.ofNat 59)), qtA 7, qtN 8 0 60, qtN 9 0 60], [], [qvR 0, qvK (.ofNat 4), qvS 2, qvS 4, qvS 5, qvS 6], zh92, []), symsL 4 0, some ((.ofNat 62), [(6, (.ofNat 1))]), 0, 0)
noncomputable def c39_4_pts : List PE := [c39_4_p0, c39_4_p1, c39_4_p2]
set_option maxRecDepth 100000 in
theorem c39_4_k : enCtF c39_4 c39_4_e (pkP (c39_4_pts ++ []) [1, 0]) (none) (noF, noM, 2361183241434822615040, 0, 4) 3000 = true := by decide +kernel
set_option maxRecDepth 100000 in
theorem c39_4_k0 : ptCtF c39_4 c39_4_e (pkP (c39_4_pts ++ []) [2, 1, 0]) (noF, noM, 2361183241434822615040, 0, 4) 3000 c39_4_p0 = true := by decide +kernel
set_option maxRecDepth 100000 in
theorem c39_4_k1 : ptCtF c39_4 c39_4_e (pkP (c39_4_pts ++ []) [2]) (noF, noM, 2361183241434822615040, 0, 4) 3000 c39_4_p1 = true := by decide +kernel
set_option maxRecDepth 100000 in
theorem c39_4_k2 : ptCtF c39_4 c39_4_e (pkP (c39_4_pts ++ []) [2]) (noF, noM, 2361183241434822615040, 0, 4) 3000 c39_4_p2 = true := by decide +kernel
set_option maxRecDepth 100000 in
theorem c39_4_v : ValidC PPk c39_4 := ct_ok fpk ⟨noF_ok, noM_ok⟩ (d := 35) (ext := []) (pts := c39_4_pts) (env := c39_4_e) rfl (List.forall_mem_cons.mpr ⟨⟨c40_0_v, Nat.le_of_ble_eq_true rfl⟩, List.forall_mem_cons.mpr ⟨⟨c41_8_v, Nat.le_of_ble_eq_true rfl⟩, List.forall_mem_cons.mpr ⟨⟨c41_9_v, Nat.le_of_ble_eq_true rfl⟩, List.forall_mem_cons.mpr ⟨⟨c44_0_v, Nat.le_of_ble_eq_true rfl⟩, fun _ h => (by cases h)⟩⟩⟩⟩) ext_nil (fun q h => (by cases h)) (enF c39_4_k) (List.forall_mem_cons.mpr ⟨⟨_, ptF c39_4_k0⟩, List.forall_mem_cons.mpr ⟨⟨_, ptF c39_4_k1⟩, List.forall_mem_cons.mpr ⟨⟨_, ptF c39_4_k2⟩, fun _ h => (by cases h)⟩⟩⟩)

noncomputable def c38_4 : Ct := (38, 37, (4, [qtN 0 0 60, qtA 1, qtN 2 0 60, qtN 3 0 60], [], [qvR 0, qvK (.ofNat 4)], zh87, []),
  [((7, [qtA 4, qtN 5 0 60, qtN 6 0 60], [], [], zh88, []), 0, 0)])
noncomputable def c38_4_e : List Ct := [c39_4, c40_0, c44_0]
noncomputable def c38_4_p0 : PE := (7, [0, 1, 2], (7, (zt0 []), [], [qvR 0, qvK (.ofNat 4), qvK (.ofNat 0)], zh88, []), symsL 4 0, some ((.ofNat 121), []), 0, 0)
noncomputable def c38_4_p1 : PE := (7, [0, 1, 2, 3], (9, [qtN 0 1 60, qtA 1, qtN 2 0 60, qtN 3 0 60, qtN 4 1 60, qtN 5 42 47, qtA 6, qtN 7 0 60, qtN 8 1 60], [], [qvR 0, qvK (.ofNat 4), qvS 4, qvS 5], zh93, []), symsL 4 0, some ((.ofNat 121), [(4, (.negSucc 0))]), 0, 0)
noncomputable def c38_4_pts : List PE := [c38_4_p0, c38_4_p1]
set_option maxRecDepth 100000 in
theorem c38_4_k : enCtF c38_4 c38_4_e (pkP (c38_4_pts ++ []) [0]) (none) (noF, noM, 128, 0, 4) 3000 = true := by decide +kernel
set_option maxRecDepth 100000 in
theorem c38_4_k0 : ptCtF c38_4 c38_4_e (pkP (c38_4_pts ++ []) [1]) (noF, noM, 128, 0, 4) 3000 c38_4_p0 = true := by decide +kernel
set_option maxRecDepth 100000 in
theorem c38_4_k1 : ptCtF c38_4 c38_4_e (pkP (c38_4_pts ++ []) [1]) (noF, noM, 128, 0, 4) 3000 c38_4_p1 = true := by decide +kernel
set_option maxRecDepth 100000 in
theorem c38_4_v : ValidC PPk c38_4 := ct_ok fpk ⟨noF_ok, noM_ok⟩ (d := 36) (ext := []) (pts := c38_4_pts) (env := c38_4_e) rfl (List.forall_mem_cons.mpr ⟨⟨c39_4_v, Nat.le_of_ble_eq_true rfl⟩, List.forall_mem_cons.mpr ⟨⟨c40_0_v, Nat.le_of_ble_eq_true rfl⟩, List.forall_mem_cons.mpr ⟨⟨c44_0_v, Nat.le_of_ble_eq_true rfl⟩, fun _ h => (by cases h)⟩⟩⟩) ext_nil (fun q h => (by cases h)) (enF c38_4_k) (List.forall_mem_cons.mpr ⟨⟨_, ptF c38_4_k0⟩, List.forall_mem_cons.mpr ⟨⟨_, ptF c38_4_k1⟩, fun _ h => (by cases h)⟩⟩)

noncomputable def c37_4 : Ct := (37, 38, (4, [qtN 0 0 60, qtA 1, qtN 2 0 60, qtN 3 0 60], [], [qvR 0, qvK (.ofNat 4)], zh87, []),
  [((7, [qtA 4, qtN 5 0 60, qtN 6 0 60], [], [], zh88, []), 0, 0)])
noncomputable def c37_4_e : List Ct := [c38_4, c40_0, c44_0]
noncomputable def c37_4_p0 : PE := (7, [0, 1, 2], (7, (zt0 []), [], [qvR 0, qvK (.ofNat 4), qvK (.ofNat 0)], zh88, []), symsL 4 0, some ((.ofNat 121), []), 0, 0)
noncomputable def c37_4_p1 : PE := (7, [0, 1, 2, 3], (9, [qtN 0 1 60, qtA 1, qtN 2 0 60, qtN 3 0 60, qtN 4 1 60, qtN 5 43 45, qtA 6, qtN 7 0 60, qtN 8 1 60], [], [qvR 0, qvK (.ofNat 4), qvS 4, qvS 5], zh93, []), symsL 4 0, some ((.ofNat 121), [(4, (.negSucc 0))]), 0, 0)
noncomputable def c37_4_pts : List PE := [c37_4_p0, c37_4_p1]
set_option maxRecDepth 100000 in
theorem c37_4_k : enCtF c37_4 c37_4_e (pkP (c37_4_pts ++ []) [0]) (none) (noF, noM, 128, 0, 4) 3000 = true := by decide +kernel
set_option maxRecDepth 100000 in
theorem c37_4_k0 : ptCtF c37_4 c37_4_e (pkP (c37_4_pts ++ []) [1]) (noF, noM, 128, 0, 4) 3000 c37_4_p0 = true := by decide +kernel
set_option maxRecDepth 100000 in
theorem c37_4_k1 : ptCtF c37_4 c37_4_e (pkP (c37_4_pts ++ []) [1]) (noF, noM, 128, 0, 4) 3000 c37_4_p1 = true := by decide +kernel
set_option maxRecDepth 100000 in
theorem c37_4_v : ValidC PPk c37_4 := ct_ok fpk ⟨noF_ok, noM_ok⟩ (d := 37) (ext := []) (pts := c37_4_pts) (env := c37_4_e) rfl (List.forall_mem_cons.mpr ⟨⟨c38_4_v, Nat.le_of_ble_eq_true rfl⟩, List.forall_mem_cons.mpr ⟨⟨c40_0_v, Nat.le_of_ble_eq_true rfl⟩, List.forall_mem_cons.mpr ⟨⟨c44_0_v, Nat.le_of_ble_eq_true rfl⟩, fun _ h => (by cases h)⟩⟩⟩) ext_nil (fun q h => (by cases h)) (enF c37_4_k) (List.forall_mem_cons.mpr ⟨⟨_, ptF c37_4_k0⟩, List.forall_mem_cons.mpr ⟨⟨_, ptF c37_4_k1⟩, fun _ h => (by cases h)⟩⟩)

noncomputable def c36_4 : Ct := (36, 39, (4, [qtN 0 0 60, qtA 1, qtN 2 0 60, qtN 3 0 60], [], [qvR 0, qvK (.ofNat 4)], zh87, []),
  [((7, [qtA 4, qtN 5 0 60, qtN 6 0 60], [], [], zh88, []), 0, 0)])
noncomputable def c36_4_e : List Ct := [c37_4, c40_0, c44_0]
noncomputable def c36_4_pts : List PE := []
set_option maxRecDepth 100000 in
theorem c36_4_k : enCtF c36_4 c36_4_e (pkP (c36_4_pts ++ []) []) (none) noH 3000 = true := by decide +kernel
set_option maxRecDepth 100000 in
theorem c36_4_v : ValidC PPk c36_4 := ct_ok fpk noH_ok (d := 38) (ext := []) (pts := c36_4_pts) (env := c36_4_e) rfl (List.forall_mem_cons.mpr ⟨⟨c37_4_v, Nat.le_of_ble_eq_true rfl⟩, List.forall_mem_cons.mpr ⟨⟨c40_0_v, Nat.le_of_ble_eq_true rfl⟩, List.forall_mem_cons.mpr ⟨⟨c44_0_v, Nat.le_of_ble_eq_true rfl⟩, fun _ h => (by cases h)⟩⟩⟩) ext_nil (fun q h => (by cases h)) (enF c36_4_k) (fun _ h => (by cases h))

noncomputable def c35_4 : Ct := (35, 40, (4, [qtN 0 0 60, qtA 1, qtN 2 0 60, qtN 3 0 60], [], [qvR 0, qvK (.ofNat 4)], zh87, []),
  [((7, [qtA 4, qtN 5 0 60, qtN 6 0 60], [], [], zh88, []), 0, 0)])
noncomputable def c35_4_e : List Ct := [c36_4, c40_0, c44_0]
noncomputable def c35_4_p0 : PE := (7, [0, 1, 2], (8, [qtN 0 0 60, qtA 1, qtN 2 0 60, qtN 3 0 60, qtN 4 0 60, qtA 5, qtN 6 0 60, qtN 7 0 60], [], [qvR 0, qvK (.ofNat 4), qvS 4], zh90, []), symsL 4 0, some ((.ofNat 121), [(4, (.negSucc 0))]), 0, 0)
noncomputable def c35_4_pts : List PE := [c35_4_p0]
set_option maxRecDepth 100000 in
theorem c35_4_k : enCtF c35_4 c35_4_e (pkP (c35_4_pts ++ []) [0]) (none) (noF, noM, 128, 0, 4) 3000 = true := by decide +kernel
set_option maxRecDepth 100000 in
theorem c35_4_k0 : ptCtF c35_4 c35_4_e (pkP (c35_4_pts ++ []) [0]) (noF, noM, 128, 0, 4) 3000 c35_4_p0 = true := by decide +kernel
set_option maxRecDepth 100000 in
theorem c35_4_v : ValidC PPk c35_4 := ct_ok fpk ⟨noF_ok, noM_ok⟩ (d := 39) (ext := []) (pts := c35_4_pts) (env := c35_4_e) rfl (List.forall_mem_cons.mpr ⟨⟨c36_4_v, Nat.le_of_ble_eq_true rfl⟩, List.forall_mem_cons.mpr ⟨⟨c40_0_v, Nat.le_of_ble_eq_true rfl⟩, List.forall_mem_cons.mpr ⟨⟨c44_0_v, Nat.le_of_ble_eq_true rfl⟩, fun _ h => (by cases h)⟩⟩⟩) ext_nil (fun q h => (by cases h)) (enF c35_4_k) (List.forall_mem_cons.mpr ⟨⟨_, ptF c35_4_k0⟩, fun _ h => (by cases h)⟩)
