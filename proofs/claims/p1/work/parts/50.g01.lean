/-! ===== contracts, written by wip/vse3/emitlaw.py ===== -/
noncomputable def c34_4 : Ct := (34, 41, (4, [qtN 0 0 60, qtA 1, qtN 2 0 60, qtN 3 0 60], [], [qvR 0, qvK (.ofNat 4)], zh87, []),
  [((7, [qtA 4, qtN 5 0 60, qtN 6 0 60], [], [], zh88, []), 0, 0)])
noncomputable def c34_4_e : List Ct := [c35_4, c40_0, c44_0]
noncomputable def c34_4_p0 : PE := (7, [0, 1, 2], (8, [qtN 0 0 60, qtA 1, qtN 2 0 60, qtN 3 0 60, qtN 4 0 60, qtA 5, qtN 6 0 60, qtN 7 0 60], [], [qvR 0, qvK (.ofNat 4), qvS 4], zh90, []), symsL 4 0, some ((.ofNat 121), [(4, (.negSucc 0))]), 0, 0)
noncomputable def c34_4_pts : List PE := [c34_4_p0]
set_option maxRecDepth 100000 in
theorem c34_4_k : enCtF c34_4 c34_4_e (pkP (c34_4_pts ++ []) [0]) (none) (noF, noM, 128, 0, 4) 3000 = true := by decide +kernel
set_option maxRecDepth 100000 in
theorem c34_4_k0 : ptCtF c34_4 c34_4_e (pkP (c34_4_pts ++ []) [0]) (noF, noM, 128, 0, 4) 3000 c34_4_p0 = true := by decide +kernel
set_option maxRecDepth 100000 in
theorem c34_4_v : ValidC PPk c34_4 := ct_ok fpk ⟨noF_ok, noM_ok⟩ (d := 40) (ext := []) (pts := c34_4_pts) (env := c34_4_e) rfl (List.forall_mem_cons.mpr ⟨⟨c35_4_v, Nat.le_of_ble_eq_true rfl⟩, List.forall_mem_cons.mpr ⟨⟨c40_0_v, Nat.le_of_ble_eq_true rfl⟩, List.forall_mem_cons.mpr ⟨⟨c44_0_v, Nat.le_of_ble_eq_true rfl⟩, fun _ h => (by cases h)⟩⟩⟩) ext_nil (fun q h => (by cases h)) (enF c34_4_k) (List.forall_mem_cons.mpr ⟨⟨_, ptF c34_4_k0⟩, fun _ h => (by cases h)⟩)

noncomputable def c45_5 : Ct := (45, 42, (4, [qtN 0 0 60, qtA 1, qtN 2 0 60, qtN 3 0 60], [((.ofNat 1), [(0, (.negSucc 0)), (2, (.ofNat 1))])], [qvR 0, qvK (.ofNat 3)], zh87, []),
  [((7, [qtA 4, qtN 5 0 60, qtN 6 0 60], [], [], zh88, []), 0, 0)])
noncomputable def c45_5_e : List Ct := [c34_4, c40_0, c43_0]
noncomputable def c45_5_pts : List PE := []
set_option maxRecDepth 100000 in
theorem c45_5_k : enCtF c45_5 c45_5_e (pkP (c45_5_pts ++ []) []) (none) noH 3000 = true := by decide +kernel
set_option maxRecDepth 100000 in
theorem c45_5_v : ValidC PPk c45_5 := ct_ok fpk noH_ok (d := 41) (ext := []) (pts := c45_5_pts) (env := c45_5_e) rfl (List.forall_mem_cons.mpr ⟨⟨c34_4_v, Nat.le_of_ble_eq_true rfl⟩, List.forall_mem_cons.mpr ⟨⟨c40_0_v, Nat.le_of_ble_eq_true rfl⟩, List.forall_mem_cons.mpr ⟨⟨c43_0_v, Nat.le_of_ble_eq_true rfl⟩, fun _ h => (by cases h)⟩⟩⟩) ext_nil (fun q h => (by cases h)) (enF c45_5_k) (fun _ h => (by cases h))

noncomputable def c41_10 : Ct := (41, 43, (5, [qtN 0 0 60, qtA 1, qtN 2 0 60, qtN 3 0 60, qtA 4], [((.ofNat 1), [(0, (.negSucc 0)), (2, (.ofNat 1))])], [qvR 0, qvS 4, qvK (.ofNat 3)], zh87, []),
  [((8, [qtA 5, qtN 6 0 60, qtN 7 0 60], [], [], zh90, []), 0, 0)])
noncomputable def c41_10_e : List Ct := [c42_0, c43_0, c44_0, c45_5]
noncomputable def c41_10_pts : List PE := []
set_option maxRecDepth 100000 in
theorem c41_10_k : enCtF c41_10 c41_10_e (pkP (c41_10_pts ++ []) []) (none) noH 3000 = true := by decide +kernel
set_option maxRecDepth 100000 in
theorem c41_10_v : ValidC PPk c41_10 := ct_ok fpk noH_ok (d := 42) (ext := []) (pts := c41_10_pts) (env := c41_10_e) rfl (List.forall_mem_cons.mpr ⟨⟨c42_0_v, Nat.le_of_ble_eq_true rfl⟩, List.forall_mem_cons.mpr ⟨⟨c43_0_v, Nat.le_of_ble_eq_true rfl⟩, List.forall_mem_cons.mpr ⟨⟨c44_0_v, Nat.le_of_ble_eq_true rfl⟩, List.forall_mem_cons.mpr ⟨⟨c45_5_v, Nat.le_of_ble_eq_true rfl⟩, fun _ h => (by cases h)⟩⟩⟩⟩) ext_nil (fun q h => (by cases h)) (enF c41_10_k) (fun _ h => (by cases h))

noncomputable def c41_11 : Ct := (41, 2, (6, [qtN 0 0 60, qtA 1, qtN 2 0 60, qtN 3 0 60], [], [qvR 0, qvK (.negSucc 0), qvK (.ofNat 3)], zh85, []),
  [((7, [qtA 6], [], [], zh86, []), 0, 0)])
noncomputable def c41_11_e : List Ct := [c43_0]
noncomputable def c41_11_pts : List PE := []
set_option maxRecDepth 100000 in
theorem c41_11_k : enCtF c41_11 c41_11_e (pkP (c41_11_pts ++ []) []) (none) noH 3000 = true := by decide +kernel
set_option maxRecDepth 100000 in
theorem c41_11_v : ValidC PPk c41_11 := ct_ok fpk noH_ok (d := 1) (ext := []) (pts := c41_11_pts) (env := c41_11_e) rfl (List.forall_mem_cons.mpr ⟨⟨c43_0_v, Nat.le_of_ble_eq_true rfl⟩, fun _ h => (by cases h)⟩) ext_nil (fun q h => (by cases h)) (enF c41_11_k) (fun _ h => (by cases h))

noncomputable def c39_5 : Ct := (39, 44, (4, [qtN 0 0 60, qtA 1, qtN 2 0 60, qtN 3 0 60], [], [qvR 0, qvK (.ofNat 3)], zh87, []),
  [((7, [qtA 4, qtN 5 0 60, qtN 6 0 60], [], [], zh88, []), 0, 0)])
noncomputable def c39_5_e : List Ct := [c40_0, c41_10, c41_11, c44_0]
noncomputable def c39_5_p0 : PE := (13, [0, 1, 2, 3, 4], (7, [qtN 0 1 60, (1, (.negSucc 0), (.negSucc 0)), qtN 2 0 60, qtN 3 0 60, qtN 4 0 127, qtN 5 0 60, qtN 6 0 59], [((.ofNat 1), [(0, (.negSucc 0)), (6, (.ofNat 1))])], [qvR 0, qvK (.ofNat 3), qvS 2, qvS 4, qvS 5], zh91, []), symsL 4 0, some ((.ofNat 182), [(5, (.negSucc 0))]), 0, 0)
noncomputable def c39_5_p1 : PE := (13, [0, 1, 2, 3, 4], (6, [qtN 0 0 60, qtA 1, qtN 2 0 60, qtN 3 0 60, qtN 4 0 60, qtN 5 0 60], [], [qvR 0, qvK (.ofNat 3), qvS 2, qvK (.negSucc 0), qvS 4], zh89, []), symsL 4 0, some ((.ofNat 182), [(4, (.negSucc 0))]), 0, 0)
noncomputable def c39_5_p2 : PE := (71, [0, 1, 2, 3, 4, 5], (10, [qtN 0 0 60, qtA 1, qtN 2 0 60, qtN 3 0 60, (4, (.negSucc 0), (.ofNat 127)), qtN 5 0 60, (6, (.negSucc 0), (.ofNat 59)), qtA 7, qtN 8 0 60, qtN 9 0 60], [], [qvR 0, qvK (.ofNat 3), qvS 2, qvS 4, qvS 5, qvS 6], zh92, []), symsL 4 0, some ((.ofNat 62), [(6, (.ofNat 1))]), 0, 0)
noncomputable def c39_5_pts : List PE := [c39_5_p0, c39_5_p1, c39_5_p2]
set_option maxRecDepth 100000 in
theorem c39_5_k : enCtF c39_5 c39_5_e (pkP (c39_5_pts ++ []) [1, 0]) (none) (noF, noM, 2361183241434822615040, 0, 4) 3000 = true := by decide +kernel
set_option maxRecDepth 100000 in
theorem c39_5_k0 : ptCtF c39_5 c39_5_e (pkP (c39_5_pts ++ []) [2, 1, 0]) (noF, noM, 2361183241434822615040, 0, 4) 3000 c39_5_p0 = true := by decide +kernel
set_option maxRecDepth 100000 in
theorem c39_5_k1 : ptCtF c39_5 c39_5_e (pkP (c39_5_pts ++ []) [2]) (noF, noM, 2361183241434822615040, 0, 4) 3000 c39_5_p1 = true := by decide +kernel
set_option maxRecDepth 100000 in
theorem c39_5_k2 : ptCtF c39_5 c39_5_e (pkP (c39_5_pts ++ []) [2]) (noF, noM, 2361183241434822615040, 0, 4) 3000 c39_5_p2 = true := by decide +kernel
set_option maxRecDepth 100000 in
theorem c39_5_v : ValidC PPk c39_5 := ct_ok fpk ⟨noF_ok, noM_ok⟩ (d := 43) (ext := []) (pts := c39_5_pts) (env := c39_5_e) rfl (List.forall_mem_cons.mpr ⟨⟨c40_0_v, Nat.le_of_ble_eq_true rfl⟩, List.forall_mem_cons.mpr ⟨⟨c41_10_v, Nat.le_of_ble_eq_true rfl⟩, List.forall_mem_cons.mpr ⟨⟨c41_11_v, Nat.le_of_ble_eq_true rfl⟩, List.forall_mem_cons.mpr ⟨⟨c44_0_v, Nat.le_of_ble_eq_true rfl⟩, fun _ h => (by cases h)⟩⟩⟩⟩) ext_nil (fun q h => (by cases h)) (enF c39_5_k) (List.forall_mem_cons.mpr ⟨⟨_, ptF c39_5_k0⟩, List.forall_mem_cons.mpr ⟨⟨_, ptF c39_5_k1⟩, List.forall_mem_cons.mpr ⟨⟨_, ptF c39_5_k2⟩, fun _ h => (by cases h)⟩⟩⟩)

noncomputable def c38_5 : Ct := (38, 45, (4, [qtN 0 0 60, qtA 1, qtN 2 0 60, qtN 3 0 60], [], [qvR 0, qvK (.ofNat 3)], zh87, []),
  [((7, [qtA 4, qtN 5 0 60, qtN 6 0 60], [], [], zh88, []), 0, 0)])
noncomputable def c38_5_e : List Ct := [c39_5, c40_0, c44_0]
noncomputable def c38_5_p0 : PE := (7, [0, 1, 2], (7, (zt0 []), [], [qvR 0, qvK (.ofNat 3), qvK (.ofNat 0)], zh88, []), symsL 4 0, some ((.ofNat 121), []), 0, 0)
noncomputable def c38_5_p1 : PE := (7, [0, 1, 2, 3], (9, [qtN 0 1 60, qtA 1, qtN 2 0 60, qtN 3 0 60, qtN 4 1 60, qtN 5 42 47, qtA 6, qtN 7 0 60, qtN 8 1 60], [], [qvR 0, qvK (.ofNat 3), qvS 4, qvS 5], zh93, []), symsL 4 0, some ((.ofNat 121), [(4, (.negSucc 0))]), 0, 0)
noncomputable def c38_5_pts : List PE := [c38_5_p0, c38_5_p1]
set_option maxRecDepth 100000 in
theorem c38_5_k : enCtF c38_5 c38_5_e (pkP (c38_5_pts ++ []) [0]) (none) (noF, noM, 128, 0, 4) 3000 = true := by decide +kernel
set_option maxRecDepth 100000 in
theorem c38_5_k0 : ptCtF c38_5 c38_5_e (pkP (c38_5_pts ++ []) [1]) (noF, noM, 128, 0, 4) 3000 c38_5_p0 = true := by decide +kernel
set_option maxRecDepth 100000 in
theorem c38_5_k1 : ptCtF c38_5 c38_5_e (pkP (c38_5_pts ++ []) [1]) (noF, noM, 128, 0, 4) 3000 c38_5_p1 = true := by decide +kernel
set_option maxRecDepth 100000 in
theorem c38_5_v : ValidC PPk c38_5 := ct_ok fpk ⟨noF_ok, noM_ok⟩ (d := 44) (ext := []) (pts := c38_5_pts) (env := c38_5_e) rfl (List.forall_mem_cons.mpr ⟨⟨c39_5_v, Nat.le_of_ble_eq_true rfl⟩, List.forall_mem_cons.mpr ⟨⟨c40_0_v, Nat.le_of_ble_eq_true rfl⟩, List.forall_mem_cons.mpr ⟨⟨c44_0_v, Nat.le_of_ble_eq_true rfl⟩, fun _ h => (by cases h)⟩⟩⟩) ext_nil (fun q h => (by cases h)) (enF c38_5_k) (List.forall_mem_cons.mpr ⟨⟨_, ptF c38_5_k0⟩, List.forall_mem_cons.mpr ⟨⟨_, ptF c38_5_k1⟩, fun _ h => (by cases h)⟩⟩)

noncomputable def c37_5 : Ct := (37, 46, (4, [qtN 0 0 60, qtA 1, qtN 2 0 60, qtN 3 0 60], [], [qvR 0, qvK (.ofNat 3)], zh87, []),
  [((7, [qtA 4, qtN 5 0 60, qtN 6 0 60], [], [], zh88, []), 0, 0)])
noncomputable def c37_5_e : List Ct := [c38_5, c40_0, c44_0]
noncomputable def c37_5_p0 : PE := (7, [0, 1, 2], (7, (zt0 []), [], [qvR 0, qvK (.ofNat 3), qvK (.ofNat 0)], zh88, []), symsL 4 0, some ((.ofNat 121), []), 0, 0)
noncomputable def c37_5_p1 : PE := (7, [0, 1, 2, 3], (9, [qtN 0 1 60, qtA 1, qtN 2 0 60, qtN 3 0 60, qtN 4 1 60, qtN 5 43 45, qtA 6, qtN 7 0 60, qtN 8 1 60], [], [qvR 0, qvK (.ofNat 3), qvS 4, qvS 5], zh93, []), symsL 4 0, some ((.ofNat 121), [(4, (.negSucc 0))]), 0, 0)
noncomputable def c37_5_pts : List PE := [c37_5_p0, c37_5_p1]
set_option maxRecDepth 100000 in
theorem c37_5_k : enCtF c37_5 c37_5_e (pkP (c37_5_pts ++ []) [0]) (none) (noF, noM, 128, 0, 4) 3000 = true := by decide +kernel
set_option maxRecDepth 100000 in
theorem c37_5_k0 : ptCtF c37_5 c37_5_e (pkP (c37_5_pts ++ []) [1]) (noF, noM, 128, 0, 4) 3000 c37_5_p0 = true := by decide +kernel
set_option maxRecDepth 100000 in
theorem c37_5_k1 : ptCtF c37_5 c37_5_e (pkP (c37_5_pts ++ []) [1]) (noF, noM, 128, 0, 4) 3000 c37_5_p1 = true := by decide +kernel
set_option maxRecDepth 100000 in
theorem c37_5_v : ValidC PPk c37_5 := ct_ok fpk ⟨noF_ok, noM_ok⟩ (d := 45) (ext := []) (pts := c37_5_pts) (env := c37_5_e) rfl (List.forall_mem_cons.mpr ⟨⟨c38_5_v, Nat.le_of_ble_eq_true rfl⟩, List.forall_mem_cons.mpr ⟨⟨c40_0_v, Nat.le_of_ble_eq_true rfl⟩, List.forall_mem_cons.mpr ⟨⟨c44_0_v, Nat.le_of_ble_eq_true rfl⟩, fun _ h => (by cases h)⟩⟩⟩) ext_nil (fun q h => (by cases h)) (enF c37_5_k) (List.forall_mem_cons.mpr ⟨⟨_, ptF c37_5_k0⟩, List.forall_mem_cons.mpr ⟨⟨_, ptF c37_5_k1⟩, fun _ h => (by cases h)⟩⟩)

noncomputable def c36_5 : Ct := (36, 47, (4, [qtN 0 0 60, qtA 1, qtN 2 0 60, qtN 3 0 60], [], [qvR 0, qvK (.ofNat 3)], zh87, []),
  [((7, [qtA 4, qtN 5 0 60, qtN 6 0 60], [], [], zh88, []), 0, 0)])
noncomputable def c36_5_e : List Ct := [c37_5, c40_0, c44_0]
noncomputable def c36_5_pts : List PE := []
set_option maxRecDepth 100000 in
theorem c36_5_k : enCtF c36_5 c36_5_e (pkP (c36_5_pts ++ []) []) (none) noH 3000 = true := by decide +kernel
set_option maxRecDepth 100000 in
theorem c36_5_v : ValidC PPk c36_5 := ct_ok fpk noH_ok (d := 46) (ext := []) (pts := c36_5_pts) (env := c36_5_e) rfl (List.forall_mem_cons.mpr ⟨⟨c37_5_v, Nat.le_of_ble_eq_true rfl⟩, List.forall_mem_cons.mpr ⟨⟨c40_0_v, Nat.le_of_ble_eq_true rfl⟩, List.forall_mem_cons.mpr ⟨⟨c44_0_v, Nat.le_of_ble_eq_true rfl⟩, fun _ h => (by cases h)⟩⟩⟩) ext_nil (fun q h => (by cases h)) (enF c36_5_k) (fun _ h => (by cases h))

noncomputable def c35_5 : Ct := (35, 48, (4, [qtN 0 0 60, qtA 1, qtN 2 0 60, qtN 3 0 60], [], [qvR 0, qvK (.ofNat 3)], zh87, []),
  [((7, [qtA 4, qtN 5 0 60, qtN 6 0 60], [], [], zh88, []), 0, 0)])
noncomputable def c35_5_e : List Ct := [c36_5, c40_0, c44_0]
noncomputable def c35_5_p0 : PE := (7, [0, 1, 2], (8, [qtN 0 0 60, qtA 1, qtN 2 0 60, qtN 3 0 60, qtN 4 0 60, qtA 5, qtN 6 0 60, qtN 7 0 60], [], [qvR 0, qvK (.ofNat 3), qvS 4], zh90, []), symsL 4 0, some ((.ofNat 121), [(4, (.negSucc 0))]), 0, 0)
noncomputable def c35_5_pts : List PE := [c35_5_p0]
set_option maxRecDepth 100000 in
theorem c35_5_k : enCtF c35_5 c35_5_e (pkP (c35_5_pts ++ []) [0]) (none) (noF, noM, 128, 0, 4) 3000 = true := by decide +kernel
set_option maxRecDepth 100000 in
theorem c35_5_k0 : ptCtF c35_5 c35_5_e (pkP (c35_5_pts ++ []) [0]) (noF, noM, 128, 0, 4) 3000 c35_5_p0 = true := by decide +kernel
set_option maxRecDepth 100000 in
theorem c35_5_v : ValidC PPk c35_5 := ct_ok fpk ⟨noF_ok, noM_ok⟩ (d := 47) (ext := []) (pts := c35_5_pts) (env := c35_5_e) rfl (List.forall_mem_cons.mpr ⟨⟨c36_5_v, Nat.le_of_ble_eq_true rfl⟩, List.forall_mem_cons.mpr ⟨⟨c40_0_v, Nat.le_of_ble_eq_true rfl⟩, List.forall_mem_cons.mpr ⟨⟨c44_0_v, Nat.le_of_ble_eq_true rfl⟩, fun _ h => (by cases h)⟩⟩⟩) ext_nil (fun q h => (by cases h)) (enF c35_5_k) (List.forall_mem_cons.mpr ⟨⟨_, ptF c35_5_k0⟩, fun _ h => (by cases h)⟩)

noncomputable def c34_5 : Ct := (34, 49, (4, [qtN 0 0 60, qtA 1, qtN 2 0 60, qtN 3 0 60], [], [qvR 0, qvK (.ofNat 3)], zh87, []),
  [((7, [qtA 4, qtN 5 0 60, qtN 6 0 60], [], [], zh88, []), 0, 0)])
noncomputable def c34_5_e : List Ct := [c35_5, c40_0, c44_0]
noncomputable def c34_5_p0 : PE := (7, [0, 1, 2], (8, [qtN 0 0 60, qtA 1, qtN 2 0 60, qtN 3 0 60, qtN 4 0 60, qtA 5, qtN 6 0 60, qtN 7 0 60], [], [qvR 0, qvK (.ofNat 3), qvS 4], zh90, []), symsL 4 0, some ((.ofNat 121), [(4, (.negSucc 0))]), 0, 0)
noncomputable def c34_5_pts : List PE := [c34_5_p0]
set_option maxRecDepth 100000 in
theorem c34_5_k : enCtF c34_5 c34_5_e (pkP (c34_5_pts ++ []) [0]) (none) (noF, noM, 128, 0, 4) 3000 = true := by decide +kernel
set_option maxRecDepth 100000 in
theorem c34_5_k0 : ptCtF c34_5 c34_5_e (pkP (c34_5_pts ++ []) [0]) (noF, noM, 128, 0, 4) 3000 c34_5_p0 = true := by decide +kernel
set_option maxRecDepth 100000 in
theorem c34_5_v : ValidC PPk c34_5 := ct_ok fpk ⟨noF_ok, noM_ok⟩ (d := 48) (ext := []) (pts := c34_5_pts) (env := c34_5_e) rfl (List.forall_mem_cons.mpr ⟨⟨c35_5_v, Nat.le_of_ble_eq_true rfl⟩, List.forall_mem_cons.mpr ⟨⟨c40_0_v, Nat.le_of_ble_eq_true rfl⟩, List.forall_mem_cons.mpr ⟨⟨c44_0_v, Nat.le_of_ble_eq_true rfl⟩, fun _ h => (by cases h)⟩⟩⟩) ext_nil (fun q h => (by cases h)) (enF c34_5_k) (List.forall_mem_cons.mpr ⟨⟨_, ptF c34_5_k0⟩, fun _ h => (by cases h)⟩)

noncomputable def c45_6 : Ct := (45, 50, (4, [qtN 0 0 60, qtA 1, qtN 2 0 60, qtN 3 0 60], [((.ofNat 1), [(0, (.negSucc 0)), (2, (.ofNat 1))])], [qvR 0, qvK (.ofNat 2)], zh87, []),
  [((7, [qtA 4, qtN 5 0 60, qtN 6 0 60], [], [], zh88, []), 0, 0)])
noncomputable def c45_6_e : List Ct := [c34_5, c40_0, c43_0]
noncomputable def c45_6_pts : List PE := []
set_option maxRecDepth 100000 in
theorem c45_6_k : enCtF c45_6 c45_6_e (pkP (c45_6_pts ++ []) []) (none) noH 3000 = true := by decide +kernel
set_option maxRecDepth 100000 in
theorem c45_6_v : ValidC PPk c45_6 := ct_ok fpk noH_ok (d := 49) (ext := []) (pts := c45_6_pts) (env := c45_6_e) rfl (List.forall_mem_cons.mpr ⟨⟨c34_5_v, Nat.le_of_ble_eq_true rfl⟩, List.forall_mem_cons.mpr ⟨⟨c40_0_v, Nat.le_of_ble_eq_true rfl⟩, List.forall_mem_cons.mpr ⟨⟨c43_0_v, Nat.le_of_ble_eq_true rfl⟩, fun _ h => (by cases h)⟩⟩⟩) ext_nil (fun q h => (by cases h)) (enF c45_6_k) (fun _ h => (by cases h))

noncomputable def c41_12 : Ct := (41, 51, (5, [qtN 0 0 60, qtA 1, qtN 2 0 60, qtN 3 0 60, qtA 4], [((.ofNat 1), [(0, (.negSucc 0)), (2, (.ofNat 1))])], [qvR 0, qvS 4, qvK (.ofNat 2)], zh87, []),
  [((8, [qtA 5, qtN 6 0 60, qtN 7 0 60], [], [], zh90, []), 0, 0)])
noncomputable def c41_12_e : List Ct := [c42_0, c43_0, c44_0, c45_6]
noncomputable def c41_12_pts : List PE := []
set_option maxRecDepth 100000 in
theorem c41_12_k : enCtF c41_12 c41_12_e (pkP (c41_12_pts ++ []) []) (none) noH 3000 = true := by decide +kernel
set_option maxRecDepth 100000 in
theorem c41_12_v : ValidC PPk c41_12 := ct_ok fpk noH_ok (d := 50) (ext := []) (pts := c41_12_pts) (env := c41_12_e) rfl (List.forall_mem_cons.mpr ⟨⟨c42_0_v, Nat.le_of_ble_eq_true rfl⟩, List.forall_mem_cons.mpr ⟨⟨c43_0_v, Nat.le_of_ble_eq_true rfl⟩, List.forall_mem_cons.mpr ⟨⟨c44_0_v, Nat.le_of_ble_eq_true rfl⟩, List.forall_mem_cons.mpr ⟨⟨c45_6_v, Nat.le_of_ble_eq_true rfl⟩, fun _ h => (by cases h)⟩⟩⟩⟩) ext_nil (fun q h => (by cases h)) (enF c41_12_k) (fun _ h => (by cases h))

noncomputable def c41_13 : Ct := (41, 2, (6, [qtN 0 0 60, qtA 1, qtN 2 0 60, qtN 3 0 60], [], [qvR 0, qvK (.negSucc 0), qvK (.ofNat 2)], zh85, []),
  [((7, [qtA 6], [], [], zh86, []), 0, 0)])
noncomputable def c41_13_e : List Ct := [c43_0]
noncomputable def c41_13_pts : List PE := []
set_option maxRecDepth 100000 in
theorem c41_13_k : enCtF c41_13 c41_13_e (pkP (c41_13_pts ++ []) []) (none) noH 3000 = true := by decide +kernel
set_option maxRecDepth 100000 in
theorem c41_13_v : ValidC PPk c41_13 := ct_ok fpk noH_ok (d := 1) (ext := []) (pts := c41_13_pts) (env := c41_13_e) rfl (List.forall_mem_cons.mpr ⟨⟨c43_0_v, Nat.le_of_ble_eq_true rfl⟩, fun _ h => (by cases h)⟩) ext_nil (fun q h => (by cases h)) (enF c41_13_k) (fun _ h => (by cases h))

noncomputable def c39_6 : Ct := (39, 52, (4, [qtN 0 0 60, qtA 1, qtN 2 0 60, qtN 3 0 60], [], [qvR 0, qvK (.ofNat 2)], zh87, []),
  [((7, [qtA 4, qtN 5 0 60, qtN 6 0 60], [], [], zh88, []), 0, 0)])
noncomputable def c39_6_e : List Ct := [c40_0, c41_12, c41_13, c44_0]
noncomputable def c39_6_p0 : PE := (13, [0, 1, 2, 3, 4], (7, [qtN 0 1 60, (1, (.negSucc 0), (.negSucc 0)), qtN 2 0 60, qtN 3 0 60, qtN 4 0 127, qtN 5 0 60, qtN 6 0 59], [((.ofNat 1), [(0, (.negSucc 0)), (6, (.ofNat 1))])], [qvR 0, qvK (.ofNat 2), qvS 2, qvS 4, qvS 5], zh91, []), symsL 4 0, some ((.ofNat 182), [(5, (.negSucc 0))]), 0, 0)
noncomputable def c39_6_p1 : PE := (13, [0, 1, 2, 3, 4], (6, [qtN 0 0 60, qtA 1, qtN 2 0 60, qtN 3 0 60, qtN 4 0 60, qtN 5 0 60], [], [qvR 0, qvK (.ofNat 2), qvS 2, qvK (.negSucc 0), qvS 4], zh89, []), symsL 4 0, some ((.ofNat 182), [(4, (.negSucc 0))]), 0, 0)
noncomputable def c39_6_p2 : PE := (71, [0, 1, 2, 3, 4, 5], (10, [qtN 0 0 60, qtA 1, qtN 2 0 60, qtN 3 0 60, (4, (.negSucc 0), (.ofNat 127)), qtN 5 0 60, (6, (.negSucc 0), (.ofNat 59)), qtA 7, qtN 8 0 60, qtN 9 0 60], [], [qvR 0, qvK (.ofNat 2), qvS 2, qvS 4, qvS 5, qvS 6], zh92, []), symsL 4 0, some ((.ofNat 62), [(6, (.ofNat 1))]), 0, 0)
noncomputable def c39_6_pts : List PE := [c39_6_p0, c39_6_p1, c39_6_p2]
set_option maxRecDepth 100000 in
theorem c39_6_k : enCtF c39_6 c39_6_e (pkP (c39_6_pts ++ []) [1, 0]) (none) (noF, noM, 2361183241434822615040, 0, 4) 3000 = true := by decide +kernel
set_option maxRecDepth 100000 in
theorem c39_6_k0 : ptCtF c39_6 c39_6_e (pkP (c39_6_pts ++ []) [2, 1, 0]) (noF, noM, 2361183241434822615040, 0, 4) 3000 c39_6_p0 = true := by decide +kernel
set_option maxRecDepth 100000 in
theorem c39_6_k1 : ptCtF c39_6 c39_6_e (pkP (c39_6_pts ++ []) [2]) (noF, noM, 2361183241434822615040, 0, 4) 3000 c39_6_p1 = true := by decide +kernel
set_option maxRecDepth 100000 in
theorem c39_6_k2 : ptCtF c39_6 c39_6_e (pkP (c39_6_pts ++ []) [2]) (noF, noM, 2361183241434822615040, 0, 4) 3000 c39_6_p2 = true := by decide +kernel
set_option maxRecDepth 100000 in
theorem c39_6_v : ValidC PPk c39_6 := ct_ok fpk ⟨noF_ok, noM_ok⟩ (d := 51) (ext := []) (pts := c39_6_pts) (env := c39_6_e) rfl (List.forall_mem_cons.mpr ⟨⟨c40_0_v, Nat.le_of_ble_eq_true rfl⟩, List.forall_mem_cons.mpr ⟨⟨c41_12_v, Nat.le_of_ble_eq_true rfl⟩, List.forall_mem_cons.mpr ⟨⟨c41_13_v, Nat.le_of_ble_eq_true rfl⟩, List.forall_mem_cons.mpr ⟨⟨c44_0_v, Nat.le_of_ble_eq_true rfl⟩, fun _ h => (by cases h)⟩⟩⟩⟩) ext_nil (fun q h => (by cases h)) (enF c39_6_k) (List.forall_mem_cons.mpr ⟨⟨_, ptF c39_6_k0⟩, List.forall_mem_cons.mpr ⟨⟨_, ptF c39_6_k1⟩, List.forall_mem_cons.mpr ⟨⟨_, ptF c39_6_k2⟩, fun _ h => (by cases h)⟩⟩⟩)

noncomputable def c38_6 : Ct := (38, 53, (4, [qtN 0 0 60, qtA 1, qtN 2 0 60, qtN 3 0 60], [], [qvR 0, qvK (.ofNat 2)], zh87, []),
  [((7, [qtA 4, qtN 5 0 60, qtN 6 0 60], [], [], zh88, []), 0, 0)])
noncomputable def c38_6_e : List Ct := [c39_6, c40_0, c44_0]
noncomputable def c38_6_p0 : PE := (7, [0, 1, 2], (7, (zt0 []), [], [qvR 0, qvK (.ofNat 2), qvK (.ofNat 0)], zh88, []), symsL 4 0, some ((.ofNat 121), []), 0, 0)
noncomputable def c38_6_p1 : PE := (7, [0, 1, 2, 3], (9, [qtN 0 1 60, qtA 1, qtN 2 0 60, qtN 3 0 60, qtN 4 1 60, qtN 5 42 47, qtA 6, qtN 7 0 60, qtN 8 1 60], [], [qvR 0, qvK (.ofNat 2), qvS 4, qvS 5], zh93, []), symsL 4 0, some ((.ofNat 121), [(4, (.negSucc 0))]), 0, 0)
noncomputable def c38_6_pts : List PE := [c38_6_p0, c38_6_p1]
set_option maxRecDepth 100000 in
theorem c38_6_k : enCtF c38_6 c38_6_e (pkP (c38_6_pts ++ []) [0]) (none) (noF, noM, 128, 0, 4) 3000 = true := by decide +kernel
set_option maxRecDepth 100000 in
theorem c38_6_k0 : ptCtF c38_6 c38_6_e (pkP (c38_6_pts ++ []) [1]) (noF, noM, 128, 0, 4) 3000 c38_6_p0 = true := by decide +kernel
set_option maxRecDepth 100000 in
theorem c38_6_k1 : ptCtF c38_6 c38_6_e (pkP (c38_6_pts ++ []) [1]) (noF, noM, 128, 0, 4) 3000 c38_6_p1 = true := by decide +kernel
set_option maxRecDepth 100000 in
theorem c38_6_v : ValidC PPk c38_6 := ct_ok fpk ⟨noF_ok, noM_ok⟩ (d := 52) (ext := []) (pts := c38_6_pts) (env := c38_6_e) rfl (List.forall_mem_cons.mpr ⟨⟨c39_6_v, Nat.le_of_ble_eq_true rfl⟩, List.forall_mem_cons.mpr ⟨⟨c40_0_v, Nat.le_of_ble_eq_true rfl⟩, List.forall_mem_cons.mpr ⟨⟨c44_0_v, Nat.le_of_ble_eq_true rfl⟩, fun _ h => (by cases h)⟩⟩⟩) ext_nil (fun q h => (by cases h)) (enF c38_6_k) (List.forall_mem_cons.mpr ⟨⟨_, ptF c38_6_k0⟩, List.forall_mem_cons.mpr ⟨⟨_, ptF c38_6_k1⟩, fun _ h => (by cases h)⟩⟩)

noncomputable def c37_6 : Ct := (37, 54, (4, [qtN 0 0 60, qtA 1, qtN 2 0 60, qtN 3 0 60], [], [qvR 0, qvK (.ofNat 2)], zh87, []),
  [((7, [qtA 4, qtN 5 0 60, qtN 6 0 60], [], [], zh88, []), 0, 0)])
noncomputable def c37_6_e : List Ct := [c38_6, c40_0, c44_0]
noncomputable def c37_6_p0 : PE := (7, [0, 1, 2], (7, (zt0 []), [], [qvR 0, qvK (.ofNat 2), qvK (.ofNat 0)], zh88, []), symsL 4 0, some ((.ofNat 121), []), 0, 0)
noncomputable def c37_6_p1 : PE := (7, [0, 1, 2, 3], (9, [qtN 0 1 60, qtA 1, qtN 2 0 60, qtN 3 0 60, qtN 4 1 60, qtN 5 43 45, qtA 6, qtN 7 0 60, qtN 8 1 60], [], [qvR 0, qvK (.ofNat 2), qvS 4, qvS 5], zh93, []), symsL 4 0, some ((.ofNat 121), [(4, (.negSucc 0))]), 0, 0)
noncomputable def c37_6_pts : List PE := [c37_6_p0, c37_6_p1]
set_option maxRecDepth 100000 in
theorem c37_6_k : enCtF c37_6 c37_6_e (pkP (c37_6_pts ++ []) [0]) (none) (noF, noM, 128, 0, 4) 3000 = true := by decide +kernel
set_option maxRecDepth 100000 in
theorem c37_6_k0 : ptCtF c37_6 c37_6_e (pkP (c37_6_pts ++ []) [1]) (noF, noM, 128, 0, 4) 3000 c37_6_p0 = true := by decide +kernel
set_option maxRecDepth 100000 in
theorem c37_6_k1 : ptCtF c37_6 c37_6_e (pkP (c37_6_pts ++ []) [1]) (noF, noM, 128, 0, 4) 3000 c37_6_p1 = true := by decide +kernel
set_option maxRecDepth 100000 in
theorem c37_6_v : ValidC PPk c37_6 := ct_ok fpk ⟨noF_ok, noM_ok⟩ (d := 53) (ext := []) (pts := c37_6_pts) (env := c37_6_e) rfl (List.forall_mem_cons.mpr ⟨⟨c38_6_v, Nat.le_of_ble_eq_true rfl⟩, List.forall_mem_cons.mpr ⟨⟨c40_0_v, Nat.le_of_ble_eq_true rfl⟩, List.forall_mem_cons.mpr ⟨⟨c44_0_v, Nat.le_of_ble_eq_true rfl⟩, fun _ h => (by cases h)⟩⟩⟩) ext_nil (fun q h => (by cases h)) (enF c37_6_k) (List.forall_mem_cons.mpr ⟨⟨_, ptF c37_6_k0⟩, List.forall_mem_cons.mpr ⟨⟨_, ptF c37_6_k1⟩, fun _ h => (by cases h)⟩⟩)

noncomputable def c36_6 : Ct := (36, 55, (4, [qtN 0 0 60, qtA 1, qtN 2 0 60, qtN 3 0 60], [], [qvR 0, qvK (.ofNat 2)], zh87, []),
  [((7, [qtA 4, qtN 5 0 60, qtN 6 0 60], [], [], zh88, []), 0, 0)])
noncomputable def c36_6_e : List Ct := [c37_6, c40_0, c44_0]
noncomputable def c36_6_pts : List PE := []
set_option maxRecDepth 100000 in
theorem c36_6_k : enCtF c36_6 c36_6_e (pkP (c36_6_pts ++ []) []) (none) noH 3000 = true := by decide +kernel
set_option maxRecDepth 100000 in
theorem c36_6_v : ValidC PPk c36_6 := ct_ok fpk noH_ok (d := 54) (ext := []) (pts := c36_6_pts) (env := c36_6_e) rfl (List.forall_mem_cons.mpr ⟨⟨c37_6_v, Nat.le_of_ble_eq_true rfl⟩, List.forall_mem_cons.mpr ⟨⟨c40_0_v, Nat.le_of_ble_eq_true rfl⟩, List.forall_mem_cons.mpr ⟨⟨c44_0_v, Nat.le_of_ble_eq_true rfl⟩, fun _ h => (by cases h)⟩⟩⟩) ext_nil (fun q h => (by cases h)) (enF c36_6_k) (fun _ h => (by cases h))

noncomputable def c35_6 : Ct := (35, 56, (4, [qtN 0 0 60, qtA 1, qtN 2 0 60, qtN 3 0 60], [], [qvR 0, qvK (.ofNat 2)], zh87, []),
  [((7, [qtA 4, qtN 5 0 60, qtN 6 0 60], [], [], zh88, []), 0, 0)])
noncomputable def c35_6_e : List Ct := [c36_6, c40_0, c44_0]
noncomputable def c35_6_p0 : PE := (7, [0, 1, 2], (8, [qtN 0 0 60, qtA 1, qtN 2 0 60, qtN 3 0 60, qtN 4 0 60, qtA 5, qtN 6 0 60, qtN 7 0 60], [], [qvR 0, qvK (.ofNat 2), qvS 4], zh90, []), symsL 4 0, some ((.ofNat 121), [(4, (.negSucc 0))]), 0, 0)
noncomputable def c35_6_pts : List PE := [c35_6_p0]
set_option maxRecDepth 100000 in
theorem c35_6_k : enCtF c35_6 c35_6_e (pkP (c35_6_pts ++ []) [0]) (none) (noF, noM, 128, 0, 4) 3000 = true := by decide +kernel
set_option maxRecDepth 100000 in
theorem c35_6_k0 : ptCtF c35_6 c35_6_e (pkP (c35_6_pts ++ []) [0]) (noF, noM, 128, 0, 4) 3000 c35_6_p0 = true := by decide +kernel
set_option maxRecDepth 100000 in
theorem c35_6_v : ValidC PPk c35_6 := ct_ok fpk ⟨noF_ok, noM_ok⟩ (d := 55) (ext := []) (pts := c35_6_pts) (env := c35_6_e) rfl (List.forall_mem_cons.mpr ⟨⟨c36_6_v, Nat.le_of_ble_eq_true rfl⟩, List.forall_mem_cons.mpr ⟨⟨c40_0_v, Nat.le_of_ble_eq_true rfl⟩, List.forall_mem_cons.mpr ⟨⟨c44_0_v, Nat.le_of_ble_eq_true rfl⟩, fun _ h => (by cases h)⟩⟩⟩) ext_nil (fun q h => (by cases h)) (enF c35_6_k) (List.forall_mem_cons.mpr ⟨⟨_, ptF c35_6_k0⟩, fun _ h => (by cases h)⟩)

noncomputable def c34_6 : Ct := (34, 57, (4, [qtN 0 0 60, qtA 1, qtN 2 0 60, qtN 3 0 60], [], [qvR 0, qvK (.ofNat 2)], zh87, []),
  [((7, [qtA 4, qtN 5 0 60, qtN 6 0 60], [], [], zh88, []), 0, 0)])
noncomputable def c34_6_e : List Ct := [c35_6, c40_0, c44_0]
noncomputable def c34_6_p0 : PE := (7, [0, 1, 2], (8, [qtN 0 0 60, qtA 1, qtN 2 0 60, qtN 3 0 60, qtN 4 0 60, qtA 5, qtN 6 0 60, qtN 7 0 60], [], [qvR 0, qvK (.ofNat 2), qvS 4], zh90, []), symsL 4 0, some ((.ofNat 121), [(4, (.negSucc 0))]), 0, 0)
noncomputable def c34_6_pts : List PE := [c34_6_p0]
set_option maxRecDepth 100000 in
theorem c34_6_k : enCtF c34_6 c34_6_e (pkP (c34_6_pts ++ []) [0]) (none) (noF, noM, 128, 0, 4) 3000 = true := by decide +kernel
set_option maxRecDepth 100000 in
theorem c34_6_k0 : ptCtF c34_6 c34_6_e (pkP (c34_6_pts ++ []) [0]) (noF, noM, 128, 0, 4) 3000 c34_6_p0 = true := by decide +kernel
set_option maxRecDepth 100000 in
theorem c34_6_v : ValidC PPk c34_6 := ct_ok fpk ⟨noF_ok, noM_ok⟩ (d := 56) (ext := []) (pts := c34_6_pts) (env := c34_6_e) rfl (List.forall_mem_cons.mpr ⟨⟨c35_6_v, Nat.le_of_ble_eq_true rfl⟩, List.forall_mem_cons.mpr ⟨⟨c40_0_v, Nat.le_of_ble_eq_true rfl⟩, List.forall_mem_cons.mpr ⟨⟨c44_0_v, Nat.le_of_ble_eq_true rfl⟩, fun _ h => (by cases h)⟩⟩⟩) ext_nil (fun q h => (by cases h)) (enF c34_6_k) (List.forall_mem_cons.mpr ⟨⟨_, ptF c34_6_k0⟩, fun _ h => (by cases h)⟩)

noncomputable def c45_7 : Ct := (45, 58, (4, [qtN 0 0 60, qtA 1, qtN 2 0 60, qtN 3 0 60], [((.ofNat 1), [(0, (.negSucc 0)), (2, (.ofNat 1))])], [qvR 0, qvK (.ofNat 1)], zh87, []),
  [((7, [qtA 4, qtN 5 0 60, qtN 6 0 60], [], [], zh88, []), 0, 0)])
noncomputable def c45_7_e : List Ct := [c34_6, c40_0, c43_0]
noncomputable def c45_7_pts : List PE := []
set_option maxRecDepth 100000 in
theorem c45_7_k : enCtF c45_7 c45_7_e (pkP (c45_7_pts ++ []) []) (none) noH 3000 = true := by decide +kernel
set_option maxRecDepth 100000 in
theorem c45_7_v : ValidC PPk c45_7 := ct_ok fpk noH_ok (d := 57) (ext := []) (pts := c45_7_pts) (env := c45_7_e) rfl (List.forall_mem_cons.mpr ⟨⟨c34_6_v, Nat.le_of_ble_eq_true rfl⟩, List.forall_mem_cons.mpr ⟨⟨c40_0_v, Nat.le_of_ble_eq_true rfl⟩, List.forall_mem_cons.mpr ⟨⟨c43_0_v, Nat.le_of_ble_eq_true rfl⟩, fun _ h => (by cases h)⟩⟩⟩) ext_nil (fun q h => (by cases h)) (enF c45_7_k) (fun _ h => (by cases h))

noncomputable def c41_14 : Ct := (41, 59, (5, [qtN 0 0 60, qtA 1, qtN 2 0 60, qtN 3 0 60, qtA 4], [((.ofNat 1), [(0, (.negSucc 0)), (2, (.ofNat 1))])], [qvR 0, qvS 4, qvK (.ofNat 1)], zh87, []),
  [((8, [qtA 5, qtN 6 0 60, qtN 7 0 60], [], [], zh90, []), 0, 0)])
noncomputable def c41_14_e : List Ct := [c42_0, c43_0, c44_0, c45_7]
noncomputable def c41_14_pts : List PE := []
set_option maxRecDepth 100000 in
theorem c41_14_k : enCtF c41_14 c41_14_e (pkP (c41_14_pts ++ []) []) (none) noH 3000 = true := by decide +kernel
set_option maxRecDepth 100000 in
theorem c41_14_v : ValidC PPk c41_14 := ct_ok fpk noH_ok (d := 58) (ext := []) (pts := c41_14_pts) (env := c41_14_e) rfl (List.forall_mem_cons.mpr ⟨⟨c42_0_v, Nat.le_of_ble_eq_true rfl⟩, List.forall_mem_cons.mpr ⟨⟨c43_0_v, Nat.le_of_ble_eq_true rfl⟩, List.forall_mem_cons.mpr ⟨⟨c44_0_v, Nat.le_of_ble_eq_true rfl⟩, List.forall_mem_cons.mpr ⟨⟨c45_7_v, Nat.le_of_ble_eq_true rfl⟩, fun _ h => (by cases h)⟩⟩⟩⟩) ext_nil (fun q h => (by cases h)) (enF c41_14_k) (fun _ h => (by cases h))

noncomputable def c41_15 : Ct := (41, 2, (6, [qtN 0 0 60, qtA 1, qtN 2 0 60, qtN 3 0 60], [], [qvR 0, qvK (.negSucc 0), qvK (.ofNat 1)], zh85, []),
  [((7, [qtA 6], [], [], zh86, []), 0, 0)])
noncomputable def c41_15_e : List Ct := [c43_0]
noncomputable def c41_15_pts : List PE := []
set_option maxRecDepth 100000 in
theorem c41_15_k : enCtF c41_15 c41_15_e (pkP (c41_15_pts ++ []) []) (none) noH 3000 = true := by decide +kernel
set_option maxRecDepth 100000 in
theorem c41_15_v : ValidC PPk c41_15 := ct_ok fpk noH_ok (d := 1) (ext := []) (pts := c41_15_pts) (env := c41_15_e) rfl (List.forall_mem_cons.mpr ⟨⟨c43_0_v, Nat.le_of_ble_eq_true rfl⟩, fun _ h => (by cases h)⟩) ext_nil (fun q h => (by cases h)) (enF c41_15_k) (fun _ h => (by cases h))

noncomputable def c39_7 : Ct := (39, 60, (4, [qtN 0 0 60, qtA 1, qtN 2 0 60, qtN 3 0 60], [], [qvR 0, qvK (.ofNat 1)], zh87, []),
  [((7, [qtA 4, qtN 5 0 60, qtN 6 0 60], [], [], zh88, []), 0, 0)])
noncomputable def c39_7_e : List Ct := [c40_0, c41_14, c41_15, c44_0]
noncomputable def c39_7_p0 : PE := (13, [0, 1, 2, 3, 4], (7, [qtN 0 1 60, (1, (.negSucc 0), (.negSucc 0)), qtN 2 0 60, qtN 3 0 60, qtN 4 0 127, qtN 5 0 60, qtN 6 0 59], [((.ofNat 1), [(0, (.negSucc 0)), (6, (.ofNat 1))])], [qvR 0, qvK (.ofNat 1), qvS 2, qvS 4, qvS 5], zh91, []), symsL 4 0, some ((.ofNat 182), [(5, (.negSucc 0))]), 0, 0)
noncomputable def c39_7_p1 : PE := (13, [0, 1, 2, 3, 4], (6, [qtN 0 0 60, qtA 1, qtN 2 0 60, qtN 3 0 60, qtN 4 0 60, qtN 5 0 60], [], [qvR 0, qvK (.ofNat 1), qvS 2, qvK (.negSucc 0), qvS 4], zh89, []), symsL 4 0, some ((.ofNat 182), [(4, (.negSucc 0))]), 0, 0)
noncomputable def c39_7_p2 : PE := (71, [0, 1, 2, 3, 4, 5], (10, [qtN 0 0 60, qtA 1, qtN 2 0 60, qtN 3 0 60, (4, (.negSucc 0), (.ofNat 127)), qtN 5 0 60, (6, (.negSucc 0), (.ofNat 59)), qtA 7, qtN 8 0 60, qtN 9 0 60], [], [qvR 0, qvK (.ofNat 1), qvS 2, qvS 4, qvS 5, qvS 6], zh92, []), symsL 4 0, some ((.ofNat 62), [(6, (.ofNat 1))]), 0, 0)
noncomputable def c39_7_pts : List PE := [c39_7_p0, c39_7_p1, c39_7_p2]
set_option maxRecDepth 100000 in
theorem c39_7_k : enCtF c39_7 c39_7_e (pkP (c39_7_pts ++ []) [1, 0]) (none) (noF, noM, 2361183241434822615040, 0, 4) 3000 = true := by decide +kernel
set_option maxRecDepth 100000 in
theorem c39_7_k0 : ptCtF c39_7 c39_7_e (pkP (c39_7_pts ++ []) [2, 1, 0]) (noF, noM, 2361183241434822615040, 0, 4) 3000 c39_7_p0 = true := by decide +kernel
set_option maxRecDepth 100000 in
theorem c39_7_k1 : ptCtF c39_7 c39_7_e (pkP (c39_7_pts ++ []) [2]) (noF, noM, 2361183241434822615040, 0, 4) 3000 c39_7_p1 = true := by decide +kernel
set_option maxRecDepth 100000 in
theorem c39_7_k2 : ptCtF c39_7 c39_7_e (pkP (c39_7_pts ++ []) [2]) (noF, noM, 2361183241434822615040, 0, 4) 3000 c39_7_p2 = true := by decide +kernel
set_option maxRecDepth 100000 in
theorem c39_7_v : ValidC PPk c39_7 := ct_ok fpk ⟨noF_ok, noM_ok⟩ (d := 59) (ext := []) (pts := c39_7_pts) (env := c39_7_e) rfl (List.forall_mem_cons.mpr ⟨⟨c40_0_v, Nat.le_of_ble_eq_true rfl⟩, List.forall_mem_cons.mpr ⟨⟨c41_14_v, Nat.le_of_ble_eq_true rfl⟩, List.forall_mem_cons.mpr ⟨⟨c41_15_v, Nat.le_of_ble_eq_true rfl⟩, List.forall_mem_cons.mpr ⟨⟨c44_0_v, Nat.le_of_ble_eq_true rfl⟩, fun _ h => (by cases h)⟩⟩⟩⟩) ext_nil (fun q h => (by cases h)) (enF c39_7_k) (List.forall_mem_cons.mpr ⟨⟨_, ptF c39_7_k0⟩, List.forall_mem_cons.mpr ⟨⟨_, ptF c39_7_k1⟩, List.forall_mem_cons.mpr ⟨⟨_, ptF c39_7_k2⟩, fun _ h => (by cases h)⟩⟩⟩)

noncomputable def c38_7 : Ct := (38, 61, (4, [qtN 0 0 60, qtA 1, qtN 2 0 60, qtN 3 0 60], [], [qvR 0, qvK (.ofNat 1)], zh87, []),
  [((7, [qtA 4, qtN 5 0 60, qtN 6 0 60], [], [], zh88, []), 0, 0)])
noncomputable def c38_7_e : List Ct := [c39_7, c40_0, c44_0]
noncomputable def c38_7_p0 : PE := (7, [0, 1, 2], (7, (zt0 []), [], [qvR 0, qvK (.ofNat 1), qvK (.ofNat 0)], zh88, []), symsL 4 0, some ((.ofNat 121), []), 0, 0)
noncomputable def c38_7_p1 : PE := (7, [0, 1, 2, 3], (9, [qtN 0 1 60, qtA 1, qtN 2 0 60, qtN 3 0 60, qtN 4 1 60, qtN 5 42 47, qtA 6, qtN 7 0 60, qtN 8 1 60], [], [qvR 0, qvK (.ofNat 1), qvS 4, qvS 5], zh93, []), symsL 4 0, some ((.ofNat 121), [(4, (.negSucc 0))]), 0, 0)
noncomputable def c38_7_pts : List PE := [c38_7_p0, c38_7_p1]
set_option maxRecDepth 100000 in
theorem c38_7_k : enCtF c38_7 c38_7_e (pkP (c38_7_pts ++ []) [0]) (none) (noF, noM, 128, 0, 4) 3000 = true := by decide +kernel
set_option maxRecDepth 100000 in
theorem c38_7_k0 : ptCtF c38_7 c38_7_e (pkP (c38_7_pts ++ []) [1]) (noF, noM, 128, 0, 4) 3000 c38_7_p0 = true := by decide +kernel
set_option maxRecDepth 100000 in
theorem c38_7_k1 : ptCtF c38_7 c38_7_e (pkP (c38_7_pts ++ []) [1]) (noF, noM, 128, 0, 4) 3000 c38_7_p1 = true := by decide +kernel
set_option maxRecDepth 100000 in
theorem c38_7_v : ValidC PPk c38_7 := ct_ok fpk ⟨noF_ok, noM_ok⟩ (d := 60) (ext := []) (pts := c38_7_pts) (env := c38_7_e) rfl (List.forall_mem_cons.mpr ⟨⟨c39_7_v, Nat.le_of_ble_eq_true rfl⟩, List.forall_mem_cons.mpr ⟨⟨c40_0_v, Nat.le_of_ble_eq_true rfl⟩, List.forall_mem_cons.mpr ⟨⟨c44_0_v, Nat.le_of_ble_eq_true rfl⟩, fun _ h => (by cases h)⟩⟩⟩) ext_nil (fun q h => (by cases h)) (enF c38_7_k) (List.forall_mem_cons.mpr ⟨⟨_, ptF c38_7_k0⟩, List.forall_mem_cons.mpr ⟨⟨_, ptF c38_7_k1⟩, fun _ h => (by cases h)⟩⟩)

noncomputable def c37_7 : Ct := (37, 62, (4, [qtN 0 0 60, qtA 1, qtN 2 0 60, qtN 3 0 60], [], [qvR 0, qvK (.ofNat 1)], zh87, []),
  [((7, [qtA 4, qtN 5 0 60, qtN 6 0 60], [], [], zh88, []), 0, 0)])
noncomputable def c37_7_e : List Ct := [c38_7, c40_0, c44_0]
noncomputable def c37_7_p0 : PE := (7, [0, 1, 2], (7, (zt0 []), [], [qvR 0, qvK (.ofNat 1), qvK (.ofNat 0)], zh88, []), symsL 4 0, some ((.ofNat 121), []), 0, 0)
noncomputable def c37_7_p1 : PE := (7, [0, 1, 2, 3], (9, [qtN 0 1 60, qtA 1, qtN 2 0 60, qtN 3 0 60, qtN 4 1 60, qtN 5 43 45, qtA 6, qtN 7 0 60, qtN 8 1 60], [], [qvR 0, qvK (.ofNat 1), qvS 4, qvS 5], zh93, []), symsL 4 0, some ((.ofNat 121), [(4, (.negSucc 0))]), 0, 0)
noncomputable def c37_7_pts : List PE := [c37_7_p0, c37_7_p1]
set_option maxRecDepth 100000 in
theorem c37_7_k : enCtF c37_7 c37_7_e (pkP (c37_7_pts ++ []) [0]) (none) (noF, noM, 128, 0, 4) 3000 = true := by decide +kernel
set_option maxRecDepth 100000 in
theorem c37_7_k0 : ptCtF c37_7 c37_7_e (pkP (c37_7_pts ++ []) [1]) (noF, noM, 128, 0, 4) 3000 c37_7_p0 = true := by decide +kernel
set_option maxRecDepth 100000 in
theorem c37_7_k1 : ptCtF c37_7 c37_7_e (pkP (c37_7_pts ++ []) [1]) (noF, noM, 128, 0, 4) 3000 c37_7_p1 = true := by decide +kernel
set_option maxRecDepth 100000 in
theorem c37_7_v : ValidC PPk c37_7 := ct_ok fpk ⟨noF_ok, noM_ok⟩ (d := 61) (ext := []) (pts := c37_7_pts) (env := c37_7_e) rfl (List.forall_mem_cons.mpr ⟨⟨c38_7_v, Nat.le_of_ble_eq_true rfl⟩, List.forall_mem_cons.mpr ⟨⟨c40_0_v, Nat.le_of_ble_eq_true rfl⟩, List.forall_mem_cons.mpr ⟨⟨c44_0_v, Nat.le_of_ble_eq_true rfl⟩, fun _ h => (by cases h)⟩⟩⟩) ext_nil (fun q h => (by cases h)) (enF c37_7_k) (List.forall_mem_cons.mpr ⟨⟨_, ptF c37_7_k0⟩, List.forall_mem_cons.mpr ⟨⟨_, ptF c37_7_k1⟩, fun _ h => (by cases h)⟩⟩)

noncomputable def c36_7 : Ct := (36, 63, (4, [qtN 0 0 60, qtA 1, qtN 2 0 60, qtN 3 0 60], [], [qvR 0, qvK (.ofNat 1)], zh87, []),
  [((7, [qtA 4, qtN 5 0 60, qtN 6 0 60], [], [], zh88, []), 0, 0)])
noncomputable def c36_7_e : List Ct := [c37_7, c40_0, c44_0]
noncomputable def c36_7_pts : List PE := []
set_option maxRecDepth 100000 in
theorem c36_7_k : enCtF c36_7 c36_7_e (pkP (c36_7_pts ++ []) []) (none) noH 3000 = true := by decide +kernel
set_option maxRecDepth 100000 in
theorem c36_7_v : ValidC PPk c36_7 := ct_ok fpk noH_ok (d := 62) (ext := []) (pts := c36_7_pts) (env := c36_7_e) rfl (List.forall_mem_cons.mpr ⟨⟨c37_7_v, Nat.le_of_ble_eq_true rfl⟩, List.forall_mem_cons.mpr ⟨⟨c40_0_v, Nat.le_of_ble_eq_true rfl⟩, List.forall_mem_cons.mpr ⟨⟨c44_0_v, Nat.le_of_ble_eq_true rfl⟩, fun _ h => (by cases h)⟩⟩⟩) ext_nil (fun q h => (by cases h)) (enF c36_7_k) (fun _ h => (by cases h))

noncomputable def c35_7 : Ct := (35, 64, (4, [qtN 0 0 60, qtA 1, qtN 2 0 60, qtN 3 0 60], [], [qvR 0, qvK (.ofNat 1)], zh87, []),
  [((7, [qtA 4, qtN 5 0 60, qtN 6 0 60], [], [], zh88, []), 0, 0)])
noncomputable def c35_7_e : List Ct := [c36_7, c40_0, c44_0]
noncomputable def c35_7_p0 : PE := (7, [0, 1, 2], (8, [qtN 0 0 60, qtA 1, qtN 2 0 60, qtN 3 0 60, qtN 4 0 60, qtA 5, qtN 6 0 60, qtN 7 0 60], [], [qvR 0, qvK (.ofNat 1), qvS 4], zh90, []), symsL 4 0, some ((.ofNat 121), [(4, (.negSucc 0))]), 0, 0)
noncomputable def c35_7_pts : List PE := [c35_7_p0]
set_option maxRecDepth 100000 in
theorem c35_7_k : enCtF c35_7 c35_7_e (pkP (c35_7_pts ++ []) [0]) (none) (noF, noM, 128, 0, 4) 3000 = true := by decide +kernel
set_option maxRecDepth 100000 in
theorem c35_7_k0 : ptCtF c35_7 c35_7_e (pkP (c35_7_pts ++ []) [0]) (noF, noM, 128, 0, 4) 3000 c35_7_p0 = true := by decide +kernel
set_option maxRecDepth 100000 in
theorem c35_7_v : ValidC PPk c35_7 := ct_ok fpk ⟨noF_ok, noM_ok⟩ (d := 63) (ext := []) (pts := c35_7_pts) (env := c35_7_e) rfl (List.forall_mem_cons.mpr ⟨⟨c36_7_v, Nat.le_of_ble_eq_true rfl⟩, List.forall_mem_cons.mpr ⟨⟨c40_0_v, Nat.le_of_ble_eq_true rfl⟩, List.forall_mem_cons.mpr ⟨⟨c44_0_v, Nat.le_of_ble_eq_true rfl⟩, fun _ h => (by cases h)⟩⟩⟩) ext_nil (fun q h => (by cases h)) (enF c35_7_k) (List.forall_mem_cons.mpr ⟨⟨_, ptF c35_7_k0⟩, fun _ h => (by cases h)⟩)

noncomputable def c34_7 : Ct := (34, 65, (4, [qtN 0 0 60, qtA 1, qtN 2 0 60, qtN 3 0 60], [], [qvR 0, qvK (.ofNat 1)], zh87, []),
  [((7, [qtA 4, qtN 5 0 60, qtN 6 0 60], [], [], zh88, []), 0, 0)])
noncomputable def c34_7_e : List Ct := [c35_7, c40_0, c44_0]
noncomputable def c34_7_p0 : PE := (7, [0, 1, 2], (8, [qtN 0 0 60, qtA 1, qtN 2 0 60, qtN 3 0 60, qtN 4 0 60, qtA 5, qtN 6 0 60, qtN 7 0 60], [], [qvR 0, qvK (.ofNat 1), qvS 4], zh90, []), symsL 4 0, some ((.ofNat 121), [(4, (.negSucc 0))]), 0, 0)
noncomputable def c34_7_pts : List PE := [c34_7_p0]
set_option maxRecDepth 100000 in
theorem c34_7_k : enCtF c34_7 c34_7_e (pkP (c34_7_pts ++ []) [0]) (none) (noF, noM, 128, 0, 4) 3000 = true := by decide +kernel
set_option maxRecDepth 100000 in
theorem c34_7_k0 : ptCtF c34_7 c34_7_e (pkP (c34_7_pts ++ []) [0]) (noF, noM, 128, 0, 4) 3000 c34_7_p0 = true := by decide +kernel
set_option maxRecDepth 100000 in
theorem c34_7_v : ValidC PPk c34_7 := ct_ok fpk ⟨noF_ok, noM_ok⟩ (d := 64) (ext := []) (pts := c34_7_pts) (env := c34_7_e) rfl (List.forall_mem_cons.mpr ⟨⟨c35_7_v, Nat.le_of_ble_eq_true rfl⟩, List.forall_mem_cons.mpr ⟨⟨c40_0_v, Nat.le_of_ble_eq_true rfl⟩, List.forall_mem_cons.mpr ⟨⟨c44_0_v, Nat.le_of_ble_eq_true rfl⟩, fun _ h => (by cases h)⟩⟩⟩) ext_nil (fun q h => (by cases h)) (enF c34_7_k) (List.forall_mem_cons.mpr ⟨⟨_, ptF c34_7_k0⟩, fun _ h => (by cases h)⟩)

noncomputable def c45_8 : Ct := (45, 66, (4, [qtN 0 0 60, qtA 1, qtN 2 0 60, qtN 3 0 60], [((.ofNat 1), [(0, (.negSucc 0)), (2, (.ofNat 1))])], [qvR 0, qvK (.ofNat 0)], zh87, []),
  [((7, [qtA 4, qtN 5 0 60, qtN 6 0 60], [], [], zh88, []), 0, 0)])
noncomputable def c45_8_e : List Ct := [c34_7, c40_0, c43_0]
noncomputable def c45_8_pts : List PE := []
set_option maxRecDepth 100000 in
theorem c45_8_k : enCtF c45_8 c45_8_e (pkP (c45_8_pts ++ []) []) (none) noH 3000 = true := by decide +kernel
set_option maxRecDepth 100000 in
theorem c45_8_v : ValidC PPk c45_8 := ct_ok fpk noH_ok (d := 65) (ext := []) (pts := c45_8_pts) (env := c45_8_e) rfl (List.forall_mem_cons.mpr ⟨⟨c34_7_v, Nat.le_of_ble_eq_true rfl⟩, List.forall_mem_cons.mpr ⟨⟨c40_0_v, Nat.le_of_ble_eq_true rfl⟩, List.forall_mem_cons.mpr ⟨⟨c43_0_v, Nat.le_of_ble_eq_true rfl⟩, fun _ h => (by cases h)⟩⟩⟩) ext_nil (fun q h => (by cases h)) (enF c45_8_k) (fun _ h => (by cases h))

noncomputable def c41_16 : Ct := (41, 67, (5, [qtN 0 0 60, qtA 1, qtN 2 0 60, qtN 3 0 60, qtA 4], [((.ofNat 1), [(0, (.negSucc 0)), (2, (.ofNat 1))])], [qvR 0, qvS 4, qvK (.ofNat 0)], zh87, []),
  [((8, [qtA 5, qtN 6 0 60, qtN 7 0 60], [], [], zh90, []), 0, 0)])
noncomputable def c41_16_e : List Ct := [c42_0, c43_0, c44_0, c45_8]
noncomputable def c41_16_pts : List PE := []
set_option maxRecDepth 100000 in
theorem c41_16_k : enCtF c41_16 c41_16_e (pkP (c41_16_pts ++ []) []) (none) noH 3000 = true := by decide +kernel
set_option maxRecDepth 100000 in
theorem c41_16_v : ValidC PPk c41_16 := ct_ok fpk noH_ok (d := 66) (ext := []) (pts := c41_16_pts) (env := c41_16_e) rfl (List.forall_mem_cons.mpr ⟨⟨c42_0_v, Nat.le_of_ble_eq_true rfl⟩, List.forall_mem_cons.mpr ⟨⟨c43_0_v, Nat.le_of_ble_eq_true rfl⟩, List.forall_mem_cons.mpr ⟨⟨c44_0_v, Nat.le_of_ble_eq_true rfl⟩, List.forall_mem_cons.mpr ⟨⟨c45_8_v, Nat.le_of_ble_eq_true rfl⟩, fun _ h => (by cases h)⟩⟩⟩⟩) ext_nil (fun q h => (by cases h)) (enF c41_16_k) (fun _ h => (by cases h))

noncomputable def c41_17 : Ct := (41, 2, (6, [qtN 0 0 60, qtA 1, qtN 2 0 60, qtN 3 0 60], [], [qvR 0, qvK (.negSucc 0), qvK (.ofNat 0)], zh85, []),
  [((7, [qtA 6], [], [], zh86, []), 0, 0)])
noncomputable def c41_17_e : List Ct := [c43_0]
noncomputable def c41_17_pts : List PE := []
set_option maxRecDepth 100000 in
theorem c41_17_k : enCtF c41_17 c41_17_e (pkP (c41_17_pts ++ []) []) (none) noH 3000 = true := by decide +kernel
set_option maxRecDepth 100000 in
theorem c41_17_v : ValidC PPk c41_17 := ct_ok fpk noH_ok (d := 1) (ext := []) (pts := c41_17_pts) (env := c41_17_e) rfl (List.forall_mem_cons.mpr ⟨⟨c43_0_v, Nat.le_of_ble_eq_true rfl⟩, fun _ h => (by cases h)⟩) ext_nil (fun q h => (by cases h)) (enF c41_17_k) (fun _ h => (by cases h))

noncomputable def c39_8 : Ct := (39, 68, (4, [qtN 0 0 60, qtA 1, qtN 2 0 60, qtN 3 0 60], [], [qvR 0, qvK (.ofNat 0)], zh87, []),
  [((7, [qtA 4, qtN 5 0 60, qtN 6 0 60], [], [], zh88, []), 0, 0)])
noncomputable def c39_8_e : List Ct := [c40_0, c41_16, c41_17, c44_0]
noncomputable def c39_8_p0 : PE := (13, [0, 1, 2, 3, 4], (7, [qtN 0 1 60, (1, (.negSucc 0), (.negSucc 0)), qtN 2 0 60, qtN 3 0 60, qtN 4 0 127, qtN 5 0 60, qtN 6 0 59], [((.ofNat 1), [(0, (.negSucc 0)), (6, (.ofNat 1))])], [qvR 0, qvK (.ofNat 0), qvS 2, qvS 4, qvS 5], zh91, []), symsL 4 0, some ((.ofNat 182), [(5, (.negSucc 0))]), 0, 0)
noncomputable def c39_8_p1 : PE := (13, [0, 1, 2, 3, 4], (6, [qtN 0 0 60, qtA 1, qtN 2 0 60, qtN 3 0 60, qtN 4 0 60, qtN 5 0 60], [], [qvR 0, qvK (.ofNat 0), qvS 2, qvK (.negSucc 0), qvS 4], zh89, []), symsL 4 0, some ((.ofNat 182), [(4, (.negSucc 0))]), 0, 0)
noncomputable def c39_8_p2 : PE := (71, [0, 1, 2, 3, 4, 5], (10, [qtN 0 0 60, qtA 1, qtN 2 0 60, qtN 3 0 60, (4, (.negSucc 0), (.ofNat 127)), qtN 5 0 60, (6, (.negSucc 0), (.ofNat 59)), qtA 7, qtN 8 0 60, qtN 9 0 60], [], [qvR 0, qvK (.ofNat 0), qvS 2, qvS 4, qvS 5, qvS 6], zh92, []), symsL 4 0, some ((.ofNat 62), [(6, (.ofNat 1))]), 0, 0)
noncomputable def c39_8_pts : List PE := [c39_8_p0, c39_8_p1, c39_8_p2]
set_option maxRecDepth 100000 in
theorem c39_8_k : enCtF c39_8 c39_8_e (pkP (c39_8_pts ++ []) [1, 0]) (none) (noF, noM, 2361183241434822615040, 0, 4) 3000 = true := by decide +kernel
set_option maxRecDepth 100000 in
theorem c39_8_k0 : ptCtF c39_8 c39_8_e (pkP (c39_8_pts ++ []) [2, 1, 0]) (noF, noM, 2361183241434822615040, 0, 4) 3000 c39_8_p0 = true := by decide +kernel
set_option maxRecDepth 100000 in
theorem c39_8_k1 : ptCtF c39_8 c39_8_e (pkP (c39_8_pts ++ []) [2]) (noF, noM, 2361183241434822615040, 0, 4) 3000 c39_8_p1 = true := by decide +kernel
set_option maxRecDepth 100000 in
theorem c39_8_k2 : ptCtF c39_8 c39_8_e (pkP (c39_8_pts ++ []) [2]) (noF, noM, 2361183241434822615040, 0, 4) 3000 c39_8_p2 = true := by decide +kernel
set_option maxRecDepth 100000 in
theorem c39_8_v : ValidC PPk c39_8 := ct_ok fpk ⟨noF_ok, noM_ok⟩ (d := 67) (ext := []) (pts := c39_8_pts) (env := c39_8_e) rfl (List.forall_mem_cons.mpr ⟨⟨c40_0_v, Nat.le_of_ble_eq_true rfl⟩, List.forall_mem_cons.mpr ⟨⟨c41_16_v, Nat.le_of_ble_eq_true rfl⟩, List.forall_mem_cons.mpr ⟨⟨c41_17_v, Nat.le_of_ble_eq_true rfl⟩, List.forall_mem_cons.mpr ⟨⟨c44_0_v, Nat.le_of_ble_eq_true rfl⟩, fun _ h => (by cases h)⟩⟩⟩⟩) ext_nil (fun q h => (by cases h)) (enF c39_8_k) (List.forall_mem_cons.mpr ⟨⟨_, ptF c39_8_k0⟩, List.forall_mem_cons.mpr ⟨⟨_, ptF c39_8_k1⟩, List.forall_mem_cons.mpr ⟨⟨_, ptF c39_8_k2⟩, fun _ h => (by cases h)⟩⟩⟩)

noncomputable def c38_8 : Ct := (38, 69, (4, [qtN 0 0 60, qtA 1, qtN 2 0 60, qtN 3 0 60], [], [qvR 0, qvK (.ofNat 0)], zh87, []),
  [((7, [qtA 4, qtN 5 0 60, qtN 6 0 60], [], [], zh88, []), 0, 0)])
noncomputable def c38_8_e : List Ct := [c39_8, c40_0, c44_0]
noncomputable def c38_8_p0 : PE := (7, [0, 1, 2], (7, (zt0 []), [], [qvR 0, qvK (.ofNat 0), qvK (.ofNat 0)], zh88, []), symsL 4 0, some ((.ofNat 121), []), 0, 0)
noncomputable def c38_8_p1 : PE := (7, [0, 1, 2, 3], (9, [qtN 0 1 60, qtA 1, qtN 2 0 60, qtN 3 0 60, qtN 4 1 60, qtN 5 42 47, qtA 6, qtN 7 0 60, qtN 8 1 60], [], [qvR 0, qvK (.ofNat 0), qvS 4, qvS 5], zh93, []), symsL 4 0, some ((.ofNat 121), [(4, (.negSucc 0))]), 0, 0)
noncomputable def c38_8_pts : List PE := [c38_8_p0, c38_8_p1]
set_option maxRecDepth 100000 in
theorem c38_8_k : enCtF c38_8 c38_8_e (pkP (c38_8_pts ++ []) [0]) (none) (noF, noM, 128, 0, 4) 3000 = true := by decide +kernel
set_option maxRecDepth 100000 in
theorem c38_8_k0 : ptCtF c38_8 c38_8_e (pkP (c38_8_pts ++ []) [1]) (noF, noM, 128, 0, 4) 3000 c38_8_p0 = true := by decide +kernel
set_option maxRecDepth 100000 in
theorem c38_8_k1 : ptCtF c38_8 c38_8_e (pkP (c38_8_pts ++ []) [1]) (noF, noM, 128, 0, 4) 3000 c38_8_p1 = true := by decide +kernel
set_option maxRecDepth 100000 in
theorem c38_8_v : ValidC PPk c38_8 := ct_ok fpk ⟨noF_ok, noM_ok⟩ (d := 68) (ext := []) (pts := c38_8_pts) (env := c38_8_e) rfl (List.forall_mem_cons.mpr ⟨⟨c39_8_v, Nat.le_of_ble_eq_true rfl⟩, List.forall_mem_cons.mpr ⟨⟨c40_0_v, Nat.le_of_ble_eq_true rfl⟩, List.forall_mem_cons.mpr ⟨⟨c44_0_v, Nat.le_of_ble_eq_true rfl⟩, fun _ h => (by cases h)⟩⟩⟩) ext_nil (fun q h => (by cases h)) (enF c38_8_k) (List.forall_mem_cons.mpr ⟨⟨_, ptF c38_8_k0⟩, List.forall_mem_cons.mpr ⟨⟨_, ptF c38_8_k1⟩, fun _ h => (by cases h)⟩⟩)

noncomputable def c37_8 : Ct := (37, 70, (4, [qtN 0 0 60, qtA 1, qtN 2 0 60, qtN 3 0 60], [], [qvR 0, qvK (.ofNat 0)], zh87, []),
  [((7, [qtA 4, qtN 5 0 60, qtN 6 0 60], [], [], zh88, []), 0, 0)])
noncomputable def c37_8_e : List Ct := [c38_8, c40_0, c44_0]
noncomputable def c37_8_p0 : PE := (7, [0, 1, 2], (7, (zt0 []), [], [qvR 0, qvK (.ofNat 0), qvK (.ofNat 0)], zh88, []), symsL 4 0, some ((.ofNat 121), []), 0, 0)
noncomputable def c37_8_p1 : PE := (7, [0, 1, 2, 3], (9, [qtN 0 1 60, qtA 1, qtN 2 0 60, qtN 3 0 60, qtN 4 1 60, qtN 5 43 45, qtA 6, qtN 7 0 60, qtN 8 1 60], [], [qvR 0, qvK (.ofNat 0), qvS 4, qvS 5], zh93, []), symsL 4 0, some ((.ofNat 121), [(4, (.negSucc 0))]), 0, 0)
noncomputable def c37_8_pts : List PE := [c37_8_p0, c37_8_p1]
set_option maxRecDepth 100000 in
theorem c37_8_k : enCtF c37_8 c37_8_e (pkP (c37_8_pts ++ []) [0]) (none) (noF, noM, 128, 0, 4) 3000 = true := by decide +kernel
set_option maxRecDepth 100000 in
theorem c37_8_k0 : ptCtF c37_8 c37_8_e (pkP (c37_8_pts ++ []) [1]) (noF, noM, 128, 0, 4) 3000 c37_8_p0 = true := by decide +kernel
set_option maxRecDepth 100000 in
theorem c37_8_k1 : ptCtF c37_8 c37_8_e (pkP (c37_8_pts ++ []) [1]) (noF, noM, 128, 0, 4) 3000 c37_8_p1 = true := by decide +kernel
set_option maxRecDepth 100000 in
theorem c37_8_v : ValidC PPk c37_8 := ct_ok fpk ⟨noF_ok, noM_ok⟩ (d := 69) (ext := []) (pts := c37_8_pts) (env := c37_8_e) rfl (List.forall_mem_cons.mpr ⟨⟨c38_8_v, Nat.le_of_ble_eq_true rfl⟩, List.forall_mem_cons.mpr ⟨⟨c40_0_v, Nat.le_of_ble_eq_true rfl⟩, List.forall_mem_cons.mpr ⟨⟨c44_0_v, Nat.le_of_ble_eq_true rfl⟩, fun _ h => (by cases h)⟩⟩⟩) ext_nil (fun q h => (by cases h)) (enF c37_8_k) (List.forall_mem_cons.mpr ⟨⟨_, ptF c37_8_k0⟩, List.forall_mem_cons.mpr ⟨⟨_, ptF c37_8_k1⟩, fun _ h => (by cases h)⟩⟩)

noncomputable def c36_8 : Ct := (36, 71, (4, [qtN 0 0 60, qtA 1, qtN 2 0 60, qtN 3 0 60], [], [qvR 0, qvK (.ofNat 0)], zh87, []),
  [((7, [qtA 4, qtN 5 0 60, qtN 6 0 60], [], [], zh88, []), 0, 0)])
noncomputable def c36_8_e : List Ct := [c37_8, c40_0, c44_0]
noncomputable def c36_8_pts : List PE := []
set_option maxRecDepth 100000 in
theorem c36_8_k : enCtF c36_8 c36_8_e (pkP (c36_8_pts ++ []) []) (none) noH 3000 = true := by decide +kernel
set_option maxRecDepth 100000 in
theorem c36_8_v : ValidC PPk c36_8 := ct_ok fpk noH_ok (d := 70) (ext := []) (pts := c36_8_pts) (env := c36_8_e) rfl (List.forall_mem_cons.mpr ⟨⟨c37_8_v, Nat.le_of_ble_eq_true rfl⟩, List.forall_mem_cons.mpr ⟨⟨c40_0_v, Nat.le_of_ble_eq_true rfl⟩, List.forall_mem_cons.mpr ⟨⟨c44_0_v, Nat.le_of_ble_eq_true rfl⟩, fun _ h => (by cases h)⟩⟩⟩) ext_nil (fun q h => (by cases h)) (enF c36_8_k) (fun _ h => (by cases h))

noncomputable def c35_8 : Ct := (35, 72, (4, [qtN 0 0 60, qtA 1, qtN 2 0 60, qtN 3 0 60], [], [qvR 0, qvK (.ofNat 0)], zh87, []),
  [((7, [qtA 4, qtN 5 0 60, qtN 6 0 60], [], [], zh88, []), 0, 0)])
noncomputable def c35_8_e : List Ct := [c36_8, c40_0, c44_0]
noncomputable def c35_8_p0 : PE := (7, [0, 1, 2], (8, [qtN 0 0 60, qtA 1, qtN 2 0 60, qtN 3 0 60, qtN 4 0 60, qtA 5, qtN 6 0 60, qtN 7 0 60], [], [qvR 0, qvK (.ofNat 0), qvS 4], zh90, []), symsL 4 0, some ((.ofNat 121), [(4, (.negSucc 0))]), 0, 0)
noncomputable def c35_8_pts : List PE := [c35_8_p0]
set_option maxRecDepth 100000 in
theorem c35_8_k : enCtF c35_8 c35_8_e (pkP (c35_8_pts ++ []) [0]) (none) (noF, noM, 128, 0, 4) 3000 = true := by decide +kernel
set_option maxRecDepth 100000 in
theorem c35_8_k0 : ptCtF c35_8 c35_8_e (pkP (c35_8_pts ++ []) [0]) (noF, noM, 128, 0, 4) 3000 c35_8_p0 = true := by decide +kernel
set_option maxRecDepth 100000 in
theorem c35_8_v : ValidC PPk c35_8 := ct_ok fpk ⟨noF_ok, noM_ok⟩ (d := 71) (ext := []) (pts := c35_8_pts) (env := c35_8_e) rfl (List.forall_mem_cons.mpr ⟨⟨c36_8_v, Nat.le_of_ble_eq_true rfl⟩, List.forall_mem_cons.mpr ⟨⟨c40_0_v, Nat.le_of_ble_eq_true rfl⟩, List.forall_mem_cons.mpr ⟨⟨c44_0_v, Nat.le_of_ble_eq_true rfl⟩, fun _ h => (by cases h)⟩⟩⟩) ext_nil (fun q h => (by cases h)) (enF c35_8_k) (List.forall_mem_cons.mpr ⟨⟨_, ptF c35_8_k0⟩, fun _ h => (by cases h)⟩)

noncomputable def c34_8 : Ct := (34, 73, (4, [qtN 0 0 60, qtA 1, qtN 2 0 60, qtN 3 0 60], [], [qvR 0, qvK (.ofNat 0)], zh87, []),
  [((7, [qtA 4, qtN 5 0 60, qtN 6 0 60], [], [], zh88, []), 0, 0)])
noncomputable def c34_8_e : List Ct := [c35_8, c40_0, c44_0]
noncomputable def c34_8_p0 : PE := (7, [0, 1, 2], (8, [qtN 0 0 60, qtA 1, qtN 2 0 60, qtN 3 0 60, qtN 4 0 60, qtA 5, qtN 6 0 60, qtN 7 0 60], [], [qvR 0, qvK (.ofNat 0), qvS 4], zh90, []), symsL 4 0, some ((.ofNat 121), [(4, (.negSucc 0))]), 0, 0)
noncomputable def c34_8_pts : List PE := [c34_8_p0]
set_option maxRecDepth 100000 in
theorem c34_8_k : enCtF c34_8 c34_8_e (pkP (c34_8_pts ++ []) [0]) (none) (noF, noM, 128, 0, 4) 3000 = true := by decide +kernel
set_option maxRecDepth 100000 in
theorem c34_8_k0 : ptCtF c34_8 c34_8_e (pkP (c34_8_pts ++ []) [0]) (noF, noM, 128, 0, 4) 3000 c34_8_p0 = true := by decide +kernel
set_option maxRecDepth 100000 in
theorem c34_8_v : ValidC PPk c34_8 := ct_ok fpk ⟨noF_ok, noM_ok⟩ (d := 72) (ext := []) (pts := c34_8_pts) (env := c34_8_e) rfl (List.forall_mem_cons.mpr ⟨⟨c35_8_v, Nat.le_of_ble_eq_true rfl⟩, List.forall_mem_cons.mpr ⟨⟨c40_0_v, Nat.le_of_ble_eq_true rfl⟩, List.forall_mem_cons.mpr ⟨⟨c44_0_v, Nat.le_of_ble_eq_true rfl⟩, fun _ h => (by cases h)⟩⟩⟩) ext_nil (fun q h => (by cases h)) (enF c34_8_k) (List.forall_mem_cons.mpr ⟨⟨_, ptF c34_8_k0⟩, fun _ h => (by cases h)⟩)

noncomputable def c33_0 : Ct := (33, 74, (4, [qtN 0 0 60, qtA 1, qtN 2 0 60, qtN 3 0 60], [], [qvR 0], zh87, []),
  [((7, [qtA 4, qtN 5 0 60, qtN 6 0 60], [], [], zh88, []), 0, 0)])
noncomputable def c33_0_e : List Ct := [c34_8, c43_0]
noncomputable def c33_0_pts : List PE := []
set_option maxRecDepth 100000 in
theorem c33_0_k : enCtF c33_0 c33_0_e (pkP (c33_0_pts ++ []) []) (none) noH 3000 = true := by decide +kernel
set_option maxRecDepth 100000 in
theorem c33_0_v : ValidC PPk c33_0 := ct_ok fpk noH_ok (d := 73) (ext := []) (pts := c33_0_pts) (env := c33_0_e) rfl (List.forall_mem_cons.mpr ⟨⟨c34_8_v, Nat.le_of_ble_eq_true rfl⟩, List.forall_mem_cons.mpr ⟨⟨c43_0_v, Nat.le_of_ble_eq_true rfl⟩, fun _ h => (by cases h)⟩⟩) ext_nil (fun q h => (by cases h)) (enF c33_0_k) (fun _ h => (by cases h))

noncomputable def c32_0 : Ct := (32, 75, (1, [qtN 0 0 127], [], [qvR 0, qvS 0], zh4, []),
  [((4, [qtA 1, qtN 2 0 60, qtN 3 0 60], [], [], [qoC 5 [qvK (.ofNat 1), qvR 1, qvS 1, qvS 2, qvS 3, qvR 2, qvR 3], qiC 2 [qgN 60 0 127], qiC 0 [qgA 60], qjC 1 60], []), 0, 0)])
noncomputable def c32_0_e : List Ct := [c33_0]
noncomputable def c32_0_pts : List PE := []
set_option maxRecDepth 100000 in
theorem c32_0_k : enCtF c32_0 c32_0_e (pkP (c32_0_pts ++ []) []) (none) noH 3000 = true := by decide +kernel
set_option maxRecDepth 100000 in
theorem c32_0_v : ValidC PPk c32_0 := ct_ok fpk noH_ok (d := 74) (ext := []) (pts := c32_0_pts) (env := c32_0_e) rfl (List.forall_mem_cons.mpr ⟨⟨c33_0_v, Nat.le_of_ble_eq_true rfl⟩, fun _ h => (by cases h)⟩) ext_nil (fun q h => (by cases h)) (enF c32_0_k) (fun _ h => (by cases h))

noncomputable def c31_0 : Ct := (31, 76, (1, [qtA 0], [], [qvR 0, qvS 0], zh43, []),
  [((1, [(0, (.negSucc 2147483647), (.negSucc 0))], [], [qvK (.negSucc 1)], zh43, []), 0, 0),
   ((1, [qtN 0 128 2147483647], [], [qvK (.negSucc 1)], zh43, []), 0, 0),
   ((4, [qtN 0 0 127, qtA 1, qtN 2 0 60, qtN 3 0 60], [], [qvK (.ofNat 1)], [zc23, zc15, qrC 4 [some 3, some 8], zc16, qiC 0 [qgN 60 0 0], qiC 0 [qgN 60 0 0], qiC 0 [qgN 60 0 0], qiC 0 [qgN 60 0 0], zc17, qiC 0 [qgN 60 0 0], qiC 0 [qgN 60 0 0], qiC 0 [qgN 60 0 0], qiC 0 [qgN 60 0 0], zc18, qiC 0 [qgN 6 0 0], qiC 0 [qgN 6 0 0], qiC 0 [qgN 8 0 0], qiC 0 [qgN 8 0 0], qiC 0 [qgN 8 0 0], qiC 0 [qgN 8 0 0], qiC 0 [qgN 8 0 0], zc19, qiC 0 [qgN 6 0 0], qiC 0 [qgN 6 0 0], qiC 0 [qgN 6 0 0], qiC 0 [qgN 6 0 0], zc9, zc10, qoC 5 [qvK (.ofNat 1), qvR 29, qvS 1, qvS 2, qvS 3, qvR 30, qvR 31], qiC 2 [qgN 60 0 127], qiC 0 [qgA 60], qjC 1 60, zc21, qiC 0 [qgN 8 0 0], qiC 0 [qgN 8 0 0], qiC 0 [qgN 8 0 0], qiC 0 [qgN 8 0 0], qiC 0 [qgN 8 0 0], qiC 0 [qgN 10 0 0], qiC 0 [qgN 4 0 0], qiC 0 [qgN 4 0 0], zc37, zc38, zc39, qiC 0 [qgN 12 0 0], zc40, qiC 0 [qgN 12 0 0], zc41, qiC 0 [qgN 12 0 0], zc24, qiC 0 [qgN 12 0 0], zc42, qiC 0 [qgN 32 0 0], qiC 0 [qgN 8 0 0], qiC 0 [qgN 8 0 0], qiC 0 [qgN 2 0 0], qiC 0 [qgN 6 0 0], zc26, qjC 1 1000000006, qjC 1 1000000004, qrC 6 [none, none], qrC 7 [none, none]], []), 0, 0)])
noncomputable def c31_0_e : List Ct := [c12_22, c32_0]
noncomputable def c31_0_pts : List PE := []
set_option maxRecDepth 100000 in
theorem c31_0_k : enCtF c31_0 c31_0_e (pkP (c31_0_pts ++ []) []) (none) noH 3000 = true := by decide +kernel
set_option maxRecDepth 100000 in
theorem c31_0_v : ValidC PPk c31_0 := ct_ok fpk noH_ok (d := 75) (ext := []) (pts := c31_0_pts) (env := c31_0_e) rfl (List.forall_mem_cons.mpr ⟨⟨c12_22_v, Nat.le_of_ble_eq_true rfl⟩, List.forall_mem_cons.mpr ⟨⟨c32_0_v, Nat.le_of_ble_eq_true rfl⟩, fun _ h => (by cases h)⟩⟩) ext_nil (fun q h => (by cases h)) (enF c31_0_k) (fun _ h => (by cases h))

noncomputable def c145_22 : Ct := (145, 1, (1, [qtA 0], [], [qvS 0, qvK (.ofNat 0), qvK (.ofNat 127)], [], []),
  [((1, [(0, (.negSucc 2147483647), (.negSucc 0))], [], [qvK (.ofNat 0)], [], []), 0, 0),
   ((1, [qtN 0 128 2147483647], [], [qvK (.ofNat 0)], [], []), 0, 0),
   ((1, [qtN 0 0 127], [], [qvK (.ofNat 1)], [], []), 0, 0)])
noncomputable def c145_22_e : List Ct := []
noncomputable def c145_22_pts : List PE := []
set_option maxRecDepth 100000 in
theorem c145_22_k : enCtF c145_22 c145_22_e (pkP (c145_22_pts ++ []) []) (none) noH 3000 = true := by decide +kernel
set_option maxRecDepth 100000 in
theorem c145_22_v : ValidC PPk c145_22 := ct_ok fpk noH_ok (d := 0) (ext := []) (pts := c145_22_pts) (env := c145_22_e) rfl (fun _ h => (by cases h)) ext_nil (fun q h => (by cases h)) (enF c145_22_k) (fun _ h => (by cases h))

noncomputable def c158_0 : Ct := (158, 2, (1, [qtA 0], [], [qvR 0, qvS 0], zh29, []),
  [((1, [(0, (.negSucc 2147483647), (.negSucc 0))], [], [qvK (.negSucc 1)], zh29, []), 0, 0),
   ((1, [qtN 0 128 2147483647], [], [qvK (.negSucc 1)], zh29, []), 0, 0),
   ((1, [qtN 0 0 127], [], [qvK (.ofNat 1)], [zc27, qiC 0 [qgN 0 0 0, .inl ((.ofNat 3), []), qgN 4 0 0, .inl ((.ofNat 1), []), qgN 2 0 0, .inl ((.ofNat 3), []), qgN 0 0 0, .inl ((.ofNat 5), []), qgN 7 0 0, .inl ((.ofNat 100), []), qgN 2 0 0, .inl ((.negSucc 0), []), qgN 21 0 0, .inl ((.ofNat 1), []), qgN 39 0 0, .inl ((.ofNat 1), []), qgN 39 0 0, .inl ((.ofNat 1), []), qgN 39 0 0, .inl ((.ofNat 1), []), qgN 621 0 0, .inl ((.negSucc 99), []), qgN 0 0 0, .inl ((.ofNat 100), []), qgN 0 0 0, .inl ((.negSucc 99), []), qgN 0 0 0, .inl ((.ofNat 100), []), qgN 0 0 0, .inl ((.negSucc 99), []), qgN 0 0 0, .inl ((.ofNat 100), []), qgN 0 0 0, .inl ((.negSucc 99), []), qgN 0 0 0, .inl ((.ofNat 100), []), qgN 40 0 0, qgS 0, qgN 77 0 0], qiC 0 [qgN 1820 0 0], qiC 3 [qgN 2 0 0], qiC 0 [qgN 70 0 0], qiC 0 [qgN 70 0 0], qiC 0 [qgN 70 0 0], qjC 1 1000000070, qjC 1 1000000008, qiC 0 [qgN 910 0 0], qiC 0 [qgN 910 0 0], qiC 0 [qgN 20 0 0], qiC 0 [qgN 20 0 0], qiC 0 [qgN 910 0 0], qjC 1 1000000004], []), 0, 0)])
noncomputable def c158_0_e : List Ct := [c145_22]
noncomputable def c158_0_pts : List PE := []
set_option maxRecDepth 100000 in
theorem c158_0_k : enCtF c158_0 c158_0_e (pkP (c158_0_pts ++ []) []) (none) noH 3000 = true := by decide +kernel
set_option maxRecDepth 100000 in
theorem c158_0_v : ValidC PPk c158_0 := ct_ok fpk noH_ok (d := 1) (ext := []) (pts := c158_0_pts) (env := c158_0_e) rfl (List.forall_mem_cons.mpr ⟨⟨c145_22_v, Nat.le_of_ble_eq_true rfl⟩, fun _ h => (by cases h)⟩) ext_nil (fun q h => (by cases h)) (enF c158_0_k) (fun _ h => (by cases h))

noncomputable def c47_0 : Ct := (47, 75, (0, [], [], [qvR 0], zh4, []),
  [((3, [qtA 0, qtN 1 0 60, qtN 2 0 60], [], [], [qoC 5 [qvK (.ofNat 0), qvR 1, qvS 0, qvS 1, qvS 2, qvR 2, qvR 3], qiC 2 [qgN 60 0 127], qiC 0 [qgA 60], qjC 1 60], []), 0, 0)])
noncomputable def c47_0_e : List Ct := [c33_0]
noncomputable def c47_0_pts : List PE := []
set_option maxRecDepth 100000 in
theorem c47_0_k : enCtF c47_0 c47_0_e (pkP (c47_0_pts ++ []) []) (none) noH 3000 = true := by decide +kernel
set_option maxRecDepth 100000 in
theorem c47_0_v : ValidC PPk c47_0 := ct_ok fpk noH_ok (d := 74) (ext := []) (pts := c47_0_pts) (env := c47_0_e) rfl (List.forall_mem_cons.mpr ⟨⟨c33_0_v, Nat.le_of_ble_eq_true rfl⟩, fun _ h => (by cases h)⟩) ext_nil (fun q h => (by cases h)) (enF c47_0_k) (fun _ h => (by cases h))

noncomputable def c46_0 : Ct := (46, 76, (0, [], [], [qvR 0], zh43, []),
  [((3, [qtA 0, qtN 1 0 60, qtN 2 0 60], [], [qvK (.ofNat 0)], [zc23, zc15, qrC 4 [some 3, some 8], zc16, qiC 0 [qgN 60 0 0], qiC 0 [qgN 60 0 0], qiC 0 [qgN 60 0 0], qiC 0 [qgN 60 0 0], zc17, qiC 0 [qgN 60 0 0], qiC 0 [qgN 60 0 0], qiC 0 [qgN 60 0 0], qiC 0 [qgN 60 0 0], zc18, qiC 0 [qgN 6 0 0], qiC 0 [qgN 6 0 0], qiC 0 [qgN 8 0 0], qiC 0 [qgN 8 0 0], qiC 0 [qgN 8 0 0], qiC 0 [qgN 8 0 0], qiC 0 [qgN 8 0 0], zc19, qiC 0 [qgN 6 0 0], qiC 0 [qgN 6 0 0], qiC 0 [qgN 6 0 0], qiC 0 [qgN 6 0 0], zc9, zc10, qoC 5 [qvK (.ofNat 0), qvR 29, qvS 0, qvS 1, qvS 2, qvR 30, qvR 31], qiC 2 [qgN 60 0 127], qiC 0 [qgA 60], qjC 1 60, zc21, qiC 0 [qgN 8 0 0], qiC 0 [qgN 8 0 0], qiC 0 [qgN 8 0 0], qiC 0 [qgN 8 0 0], qiC 0 [qgN 8 0 0], qiC 0 [qgN 10 0 0], qiC 0 [qgN 4 0 0], qiC 0 [qgN 4 0 0], zc37, zc38, zc39, qiC 0 [qgN 12 0 0], zc40, qiC 0 [qgN 12 0 0], zc41, qiC 0 [qgN 12 0 0], zc24, qiC 0 [qgN 12 0 0], zc42, qiC 0 [qgN 32 0 0], qiC 0 [qgN 8 0 0], qiC 0 [qgN 8 0 0], qiC 0 [qgN 2 0 0], qiC 0 [qgN 6 0 0], zc26, qjC 1 1000000006, qjC 1 1000000004, qrC 6 [none, none], qrC 7 [none, none]], []), 0, 0)])
noncomputable def c46_0_e : List Ct := [c47_0]
noncomputable def c46_0_pts : List PE := []
set_option maxRecDepth 100000 in
theorem c46_0_k : enCtF c46_0 c46_0_e (pkP (c46_0_pts ++ []) []) (none) noH 3000 = true := by decide +kernel
set_option maxRecDepth 100000 in
theorem c46_0_v : ValidC PPk c46_0 := ct_ok fpk noH_ok (d := 75) (ext := []) (pts := c46_0_pts) (env := c46_0_e) rfl (List.forall_mem_cons.mpr ⟨⟨c47_0_v, Nat.le_of_ble_eq_true rfl⟩, fun _ h => (by cases h)⟩) ext_nil (fun q h => (by cases h)) (enF c46_0_k) (fun _ h => (by cases h))

noncomputable def c159_0 : Ct := (159, 1, (0, [], [], [qvR 0], zh29, []),
  [((0, [], [], [qvK (.ofNat 0)], zh29, []), 0, 0)])
noncomputable def c159_0_e : List Ct := []
noncomputable def c159_0_pts : List PE := []
set_option maxRecDepth 100000 in
theorem c159_0_k : enCtF c159_0 c159_0_e (pkP (c159_0_pts ++ []) []) (none) noH 3000 = true := by decide +kernel
set_option maxRecDepth 100000 in
theorem c159_0_v : ValidC PPk c159_0 := ct_ok fpk noH_ok (d := 0) (ext := []) (pts := c159_0_pts) (env := c159_0_e) rfl (fun _ h => (by cases h)) ext_nil (fun q h => (by cases h)) (enF c159_0_k) (fun _ h => (by cases h))

noncomputable def c48_0 : Ct := (48, 1, (0, [], [], [qvR 0], zh43, []),
  [((0, [], [], [qvK (.ofNat 1)], zh43, []), 0, 0)])
noncomputable def c48_0_e : List Ct := []
noncomputable def c48_0_pts : List PE := []
set_option maxRecDepth 100000 in
theorem c48_0_k : enCtF c48_0 c48_0_e (pkP (c48_0_pts ++ []) []) (none) noH 3000 = true := by decide +kernel
set_option maxRecDepth 100000 in
theorem c48_0_v : ValidC PPk c48_0 := ct_ok fpk noH_ok (d := 0) (ext := []) (pts := c48_0_pts) (env := c48_0_e) rfl (fun _ h => (by cases h)) ext_nil (fun q h => (by cases h)) (enF c48_0_k) (fun _ h => (by cases h))

noncomputable def zh94 : AH := [zc27, qkC 100 0, qkC 100 1, qkC 103 2, qkC 100 3, qkC 100 4, qkC 100 5, qjC 1 1000000070, qjC 1 1000000008, qkC 100 6, qkC 100 7, qkC 100 8, qkC 100 9, qkC 100 10, qjC 1 1000000004]
noncomputable def c162_0 : Ct := (162, 1, (11, [], [], [qvR 0, qvK (.ofNat 1)], zh94, []),
  [((11, [], [], [], zh94, []), 0, 0)])
noncomputable def c162_0_e : List Ct := []
noncomputable def c162_0_pts : List PE := []
set_option maxRecDepth 100000 in
theorem c162_0_k : enCtF c162_0 c162_0_e (pkP (c162_0_pts ++ []) []) (none) noH 3000 = true := by decide +kernel
set_option maxRecDepth 100000 in
theorem c162_0_v : ValidC PPk c162_0 := ct_ok fpk noH_ok (d := 0) (ext := []) (pts := c162_0_pts) (env := c162_0_e) rfl (fun _ h => (by cases h)) ext_nil (fun q h => (by cases h)) (enF c162_0_k) (fun _ h => (by cases h))

noncomputable def zt1 (r : TbL) : TbL := qtN 0 0 1001 :: qtA 1 :: qtA 2 :: qtA 3 :: qtA 4 :: qtA 5 :: qtA 6 :: qtA 7 :: qtA 8 :: qtA 9 :: qtA 10 :: qtA 11 :: qtA 12 :: qtA 13 :: qtA 14 :: qtA 15 :: qtA 16 :: qtA 17 :: qtA 18 :: qtA 19 :: qtA 20 :: qtA 21 :: qtA 22 :: qtA 23 :: qtA 24 :: qtA 25 :: qtA 26 :: qtA 27 :: qtA 28 :: qtA 29 :: qtA 30 :: qtA 31 :: qtA 32 :: qtA 33 :: qtA 34 :: qtA 35 :: qtA 36 :: qtA 37 :: qtA 38 :: qtA 39 :: qtA 40 :: qtA 41 :: qtA 42 :: qtA 43 :: qtA 44 :: qtA 45 :: qtA 46 :: qtA 47 :: qtA 48 :: qtA 49 :: r
noncomputable def zc95 : AC := qiC 0 [qgN 1 3 3, qgN 7 0 0, qgN 1 3 3, qgN 1 5 5, qgN 4 0 0, qgS 0, qgN 2 0 0, qgN 1 100 100, qgN 1 0 0, qgS 1, .inr (1, (.negSucc 0), (.negSucc 0)), qgN 9 0 0, qgS 2, qgS 3, qgS 4, qgS 5, qgS 6, qgS 7, qgS 8, qgS 9, qgS 10, qgS 11, qgS 12, qgS 13, qgN 1 1 1, qgN 27 0 0, qgS 14, qgS 15, qgS 16, qgS 17, qgS 18, qgS 19, qgS 20, qgS 21, qgS 22, qgS 23, qgS 24, qgS 25, qgN 1 1 1, qgN 27 0 0, qgS 26, qgS 27, qgS 28, qgS 29, qgS 30, qgS 31, qgS 32, qgS 33, qgS 34, qgS 35, qgS 36, qgS 37, qgN 1 1 1, qgN 27 0 0, qgS 38, qgS 39, qgS 40, qgS 41, qgS 42, qgS 43, qgS 44, qgS 45, qgS 46, qgS 47, qgS 48, qgS 49, qgN 1 1 1, qgN 621 0 0, .inr (1, (.negSucc 99), (.negSucc 99)), qgN 1 100 100, .inr (1, (.negSucc 99), (.negSucc 99)), qgN 1 100 100, .inr (1, (.negSucc 99), (.negSucc 99)), qgN 1 100 100, .inr (1, (.negSucc 99), (.negSucc 99)), qgN 1 100 100, qgN 118 0 0]
noncomputable def zh96 : AH := [zc27, zc95, qkC 100 50, qkC 103 51, qkC 100 52, qkC 100 53, qkC 100 54, qjC 1 1000000070, qjC 1 1000000008, qkC 100 55, qkC 100 56, qkC 100 57, qkC 100 58, qkC 100 59, qjC 1 1000000004]
noncomputable def c161_0 : Ct := (161, 2, (60, (zt1 []), [], [qvR 0], zh96, []),
  [((60, [], [], [qvK (.ofNat 1)], zh96, []), 0, 0)])
noncomputable def c161_0_e : List Ct := [c162_0]
noncomputable def c161_0_p0 : PE := (24, [0, 1, 2, 3, 4], (60, (zt1 []), [], [qvR 0, qvK (.ofNat 0), qvK (.ofNat 0), qvK (.ofNat 0), qvK (.ofNat 0)], zh96, []), symsL 60 0, some ((.ofNat 1), []), 0, 0)
noncomputable def c161_0_pts : List PE := [c161_0_p0]
set_option maxRecDepth 100000 in
theorem c161_0_k : enCtF c161_0 c161_0_e (pkP (c161_0_pts ++ []) [0]) (none) (noF, noM, 16777216, 0, 60) 3000 = true := by decide +kernel
set_option maxRecDepth 100000 in
theorem c161_0_k0 : ptCtF c161_0 c161_0_e (pkP (c161_0_pts ++ []) []) (noF, noM, 16777216, 0, 60) 3000 c161_0_p0 = true := by decide +kernel
set_option maxRecDepth 100000 in
theorem c161_0_v : ValidC PPk c161_0 := ct_ok fpk ⟨noF_ok, noM_ok⟩ (d := 1) (ext := []) (pts := c161_0_pts) (env := c161_0_e) rfl (List.forall_mem_cons.mpr ⟨⟨c162_0_v, Nat.le_of_ble_eq_true rfl⟩, fun _ h => (by cases h)⟩) ext_nil (fun q h => (by cases h)) (enF c161_0_k) (List.forall_mem_cons.mpr ⟨⟨_, ptF c161_0_k0⟩, fun _ h => (by cases h)⟩)

noncomputable def zh97 : AH := [zc27, qiC 0 [qgN 1 3 3, qgN 7 0 0, qgN 1 3 3, qgN 1 5 5, qgN 4 0 0, .inl ((.ofNat 0), []), qgN 2 0 0, qgN 1 100 100, qgN 1 0 0, .inl ((.ofNat 0), []), .inr (1, (.negSucc 0), (.negSucc 0)), qgN 9 0 0, .inl ((.ofNat 0), []), .inl ((.ofNat 0), []), .inl ((.ofNat 0), []), .inl ((.ofNat 0), []), .inl ((.ofNat 0), []), .inl ((.ofNat 0), []), .inl ((.ofNat 0), []), .inl ((.ofNat 0), []), .inl ((.ofNat 0), []), .inl ((.ofNat 0), []), .inl ((.ofNat 0), []), .inl ((.ofNat 0), []), qgN 1 1 1, qgN 27 0 0, .inl ((.ofNat 0), []), .inl ((.ofNat 0), []), .inl ((.ofNat 0), []), .inl ((.ofNat 0), []), .inl ((.ofNat 0), []), .inl ((.ofNat 0), []), .inl ((.ofNat 0), []), .inl ((.ofNat 0), []), .inl ((.ofNat 0), []), .inl ((.ofNat 0), []), .inl ((.ofNat 0), []), .inl ((.ofNat 0), []), qgN 1 1 1, qgN 27 0 0, .inl ((.ofNat 0), []), .inl ((.ofNat 0), []), .inl ((.ofNat 0), []), .inl ((.ofNat 0), []), .inl ((.ofNat 0), []), .inl ((.ofNat 0), []), .inl ((.ofNat 0), []), .inl ((.ofNat 0), []), .inl ((.ofNat 0), []), .inl ((.ofNat 0), []), .inl ((.ofNat 0), []), .inl ((.ofNat 0), []), qgN 1 1 1, qgN 27 0 0, .inl ((.ofNat 0), []), .inl ((.ofNat 0), []), .inl ((.ofNat 0), []), .inl ((.ofNat 0), []), .inl ((.ofNat 0), []), .inl ((.ofNat 0), []), .inl ((.ofNat 0), []), .inl ((.ofNat 0), []), .inl ((.ofNat 0), []), .inl ((.ofNat 0), []), .inl ((.ofNat 0), []), .inl ((.ofNat 0), []), qgN 1 1 1, qgN 621 0 0, .inr (1, (.negSucc 99), (.negSucc 99)), qgN 1 100 100, .inr (1, (.negSucc 99), (.negSucc 99)), qgN 1 100 100, .inr (1, (.negSucc 99), (.negSucc 99)), qgN 1 100 100, .inr (1, (.negSucc 99), (.negSucc 99)), qgN 1 100 100, qgN 118 0 0], qiC 0 [qgN 1820 0 0], qiC 3 [qgN 2 0 0], qiC 0 [qgN 70 0 0], qiC 0 [qgN 70 0 0], qiC 0 [qgN 70 0 0], qjC 1 1000000070, qjC 1 1000000008, qiC 0 [qgN 910 0 0], qiC 0 [qgN 910 0 0], qiC 0 [qgN 20 0 0], qiC 0 [qgN 20 0 0], qiC 0 [qgN 910 0 0], qjC 1 1000000004]
noncomputable def c160_0 : Ct := (160, 3, (0, [], [], [qvR 0], zh29, []),
  [((0, [], [], [qvK (.ofNat 1)], zh97, []), 0, 0)])
noncomputable def c160_0_e : List Ct := [c161_0]
noncomputable def c160_0_pts : List PE := []
set_option maxRecDepth 100000 in
theorem c160_0_k : enCtF c160_0 c160_0_e (pkP (c160_0_pts ++ []) []) (none) noH 3000 = true := by decide +kernel
set_option maxRecDepth 100000 in
theorem c160_0_v : ValidC PPk c160_0 := ct_ok fpk noH_ok (d := 2) (ext := []) (pts := c160_0_pts) (env := c160_0_e) rfl (List.forall_mem_cons.mpr ⟨⟨c161_0_v, Nat.le_of_ble_eq_true rfl⟩, fun _ h => (by cases h)⟩) ext_nil (fun q h => (by cases h)) (enF c160_0_k) (fun _ h => (by cases h))

noncomputable def c12_23 : Ct := (12, 1, (1, [qtA 0], [], [qvS 0, qvK (.ofNat 1), qvK (.ofNat 100)], [], []),
  [((1, [(0, (.negSucc 2147483647), (.ofNat 0))], [], [qvK (.ofNat 0)], [], []), 0, 0),
   ((1, [qtN 0 101 2147483647], [], [qvK (.ofNat 0)], [], []), 0, 0),
   ((1, [qtN 0 1 100], [], [qvK (.ofNat 1)], [], []), 0, 0)])
noncomputable def c12_23_e : List Ct := []
noncomputable def c12_23_pts : List PE := []
set_option maxRecDepth 100000 in
theorem c12_23_k : enCtF c12_23 c12_23_e (pkP (c12_23_pts ++ []) []) (none) noH 3000 = true := by decide +kernel
set_option maxRecDepth 100000 in
theorem c12_23_v : ValidC PPk c12_23 := ct_ok fpk noH_ok (d := 0) (ext := []) (pts := c12_23_pts) (env := c12_23_e) rfl (fun _ h => (by cases h)) ext_nil (fun q h => (by cases h)) (enF c12_23_k) (fun _ h => (by cases h))

noncomputable def zc98 : AC := qoC 7 [qvR 1, qvK (.ofNat 7), qvR 10, qvR 14, qvR 15, qvK (.ofNat 0), qvK (.ofNat 0), qvK (.ofNat 0), qvS 0, qvK (.ofNat 0), qvK (.ofNat 0), qvS 1, qvK (.ofNat 0), qvK (.ofNat 0), qvK (.ofNat 0), qvK (.ofNat 0), qvK (.negSucc 0)]
noncomputable def zh99 : AH := [zc98, zc31, zc32, qkC 100 2, zc33, qkC 100 3, zc34, qkC 100 4, zc14, qkC 100 5, zc35, qkC 100 6, qkC 100 7, qkC 100 8, qkC 100 9, qkC 100 10]
noncomputable def c51_0 : Ct := (51, 1, (11, [qtA 0, qtN 1 0 1000], [], [qvR 0], zh99, []),
  [((11, [], [], [], zh99, []), 0, 0)])
noncomputable def c51_0_e : List Ct := []
noncomputable def c51_0_pts : List PE := []
set_option maxRecDepth 100000 in
theorem c51_0_k : enCtF c51_0 c51_0_e (pkP (c51_0_pts ++ []) []) (none) noH 3000 = true := by decide +kernel
set_option maxRecDepth 100000 in
theorem c51_0_v : ValidC PPk c51_0 := ct_ok fpk noH_ok (d := 0) (ext := []) (pts := c51_0_pts) (env := c51_0_e) rfl (fun _ h => (by cases h)) ext_nil (fun q h => (by cases h)) (enF c51_0_k) (fun _ h => (by cases h))

noncomputable def zc100 : AC := qoC 7 [qvR 44, qvK (.ofNat 7), qvR 53, qvR 57, qvR 58, qvK (.ofNat 0), qvK (.ofNat 0), qvK (.ofNat 0), qvS 31, qvK (.ofNat 0), qvK (.ofNat 0), qvS 32, qvK (.ofNat 0), qvK (.ofNat 0), qvK (.ofNat 0), qvK (.ofNat 0), qvK (.negSucc 0)]
noncomputable def zc101 : AC := qrC 5 [some 45, some 47, some 49, some 51]
noncomputable def zc102 : AC := qoC 9 [qvR 54, qvR 55, qvR 56, qvK (.ofNat 0)]
noncomputable def zh103 : AH := [zc22, zc15, qrC 4 [some 3, some 8], zc16, qkC 100 0, qkC 100 1, qkC 100 2, qkC 100 3, zc17, qkC 100 4, qkC 100 5, qkC 100 6, qkC 100 7, zc18, qkC 100 8, qkC 100 9, qkC 100 10, qkC 100 11, qkC 100 12, qkC 100 13, qkC 100 14, zc19, qkC 100 15, qkC 100 16, qkC 100 17, qkC 100 18, qkC 100 19, qkC 100 20, zc20, qkC 102 21, qkC 100 22, qjC 1 1000000060, zc21, qkC 100 23, qkC 100 24, qkC 100 25, qkC 100 26, qkC 100 27, qkC 100 28, qkC 100 29, qkC 100 30, qjC 1 1000000006, qjC 1 1000000004, zc100, zc101, zc40, qkC 100 33, zc41, qkC 100 34, zc24, qkC 100 35, zc25, qkC 100 36, zc102, qkC 100 37, qkC 100 38, qkC 100 39, qkC 100 40, qkC 100 41]
noncomputable def c52_0 : Ct := (52, 1, (42, [qtA 31, qtN 32 0 1000], [], [qvR 0, qvR 43], zh103, []),
  [((42, [], [], [], zh103, []), 0, 0)])
noncomputable def c52_0_e : List Ct := []
noncomputable def c52_0_pts : List PE := []
set_option maxRecDepth 100000 in
theorem c52_0_k : enCtF c52_0 c52_0_e (pkP (c52_0_pts ++ []) []) (none) noH 9000 = true := by decide +kernel
set_option maxRecDepth 100000 in
theorem c52_0_v : ValidC PPk c52_0 := ct_ok fpk noH_ok (d := 0) (ext := []) (pts := c52_0_pts) (env := c52_0_e) rfl (fun _ h => (by cases h)) ext_nil (fun q h => (by cases h)) (enF c52_0_k) (fun _ h => (by cases h))

noncomputable def c57_0 : Ct := (57, 1, (0, [], [], [qvR 0, qvK (.ofNat 0)], [qjC 1 1000000006], []),
  [((0, [], [], [.inl (true, ((.ofNat 0), []))], [qjC 1 1000000006], []), 0, 0)])
noncomputable def c57_0_e : List Ct := []
noncomputable def c57_0_pts : List PE := []
set_option maxRecDepth 100000 in
theorem c57_0_k : enCtF c57_0 c57_0_e (pkP (c57_0_pts ++ []) []) (none) noH 3000 = true := by decide +kernel
set_option maxRecDepth 100000 in
theorem c57_0_v : ValidC PPk c57_0 := ct_ok fpk noH_ok (d := 0) (ext := []) (pts := c57_0_pts) (env := c57_0_e) rfl (fun _ h => (by cases h)) ext_nil (fun q h => (by cases h)) (enF c57_0_k) (fun _ h => (by cases h))

noncomputable def zh104 : AH := [zc22, zc15, qrC 4 [some 3, some 8], zc16, qkC 100 0, qkC 100 1, qkC 100 2, qkC 100 3, zc17, qkC 100 4, qkC 100 5, qkC 100 6, qkC 100 7, zc18, qkC 100 8, qkC 100 9, qkC 100 10, qkC 100 11, qkC 100 12, qkC 100 13, qkC 100 14, zc19, qkC 100 15, qkC 100 16, qkC 100 17, qkC 100 18, qkC 100 19, qkC 100 20, zc20, qkC 102 21, qkC 100 22, qjC 1 1000000060, zc21, qkC 100 23, qkC 100 24, qkC 100 25, qkC 100 26, qkC 100 27, qkC 100 28, qkC 100 29, qkC 100 30, qjC 1 1000000006, qjC 1 1000000004, zc100, zc101, zc40, qkC 100 33, zc41, qkC 100 34, zc24, qkC 100 35, zc25, qkC 100 36, zc102, qkC 100 37, qkC 100 38, qkC 100 39, qiC 0 [qgN 2 0 0], qkC 100 40]
noncomputable def c55_0 : Ct := (55, 2, (41, [qtA 31, qtN 32 0 1000], [], [qvR 0, qvR 43], zh104, []),
  [((41, [], [], [], zh104, []), 0, 0)])
noncomputable def c55_0_e : List Ct := [c57_0]
noncomputable def c55_0_pts : List PE := []
set_option maxRecDepth 100000 in
theorem c55_0_k : enCtF c55_0 c55_0_e (pkP (c55_0_pts ++ []) []) (none) noH 9000 = true := by decide +kernel
set_option maxRecDepth 100000 in
theorem c55_0_v : ValidC PPk c55_0 := ct_ok fpk noH_ok (d := 1) (ext := []) (pts := c55_0_pts) (env := c55_0_e) rfl (List.forall_mem_cons.mpr ⟨⟨c57_0_v, Nat.le_of_ble_eq_true rfl⟩, fun _ h => (by cases h)⟩) ext_nil (fun q h => (by cases h)) (enF c55_0_k) (fun _ h => (by cases h))

noncomputable def zh105 : AH := [zc11, qkC 100 0, qiC 0 [qgN 8 0 0], qiC 0 [qgN 8 0 0]]
noncomputable def c59_0 : Ct := (59, 1, (1, [], [], [qvR 0], zh105, []),
  [((1, [], [], [], zh105, []), 0, 0)])
noncomputable def c59_0_e : List Ct := []
noncomputable def c59_0_pts : List PE := []
set_option maxRecDepth 100000 in
theorem c59_0_k : enCtF c59_0 c59_0_e (pkP (c59_0_pts ++ []) []) (none) noH 9000 = true := by decide +kernel
set_option maxRecDepth 100000 in
theorem c59_0_v : ValidC PPk c59_0 := ct_ok fpk noH_ok (d := 0) (ext := []) (pts := c59_0_pts) (env := c59_0_e) rfl (fun _ h => (by cases h)) ext_nil (fun q h => (by cases h)) (enF c59_0_k) (fun _ h => (by cases h))

noncomputable def c60_0 : Ct := (60, 1, (11, [qtA 0, qtN 1 0 1000], [], [qvR 0, qvK (.ofNat 0)], zh99, []),
  [((11, [], [], [qvK (.ofNat 1)], zh99, []), 0, 0)])
noncomputable def c60_0_e : List Ct := []
noncomputable def c60_0_pts : List PE := []
set_option maxRecDepth 100000 in
theorem c60_0_k : enCtF c60_0 c60_0_e (pkP (c60_0_pts ++ []) []) (none) noH 3000 = true := by decide +kernel
set_option maxRecDepth 100000 in
theorem c60_0_v : ValidC PPk c60_0 := ct_ok fpk noH_ok (d := 0) (ext := []) (pts := c60_0_pts) (env := c60_0_e) rfl (fun _ h => (by cases h)) ext_nil (fun q h => (by cases h)) (enF c60_0_k) (fun _ h => (by cases h))

noncomputable def c60_1 : Ct := (60, 1, (11, [qtA 0, qtN 1 0 1000], [], [qvR 0, qvK (.ofNat 1)], zh99, []),
  [((11, [], [], [qvK (.ofNat 1)], zh99, []), 0, 0)])
noncomputable def c60_1_e : List Ct := []
noncomputable def c60_1_pts : List PE := []
set_option maxRecDepth 100000 in
theorem c60_1_k : enCtF c60_1 c60_1_e (pkP (c60_1_pts ++ []) []) (none) noH 3000 = true := by decide +kernel
set_option maxRecDepth 100000 in
theorem c60_1_v : ValidC PPk c60_1 := ct_ok fpk noH_ok (d := 0) (ext := []) (pts := c60_1_pts) (env := c60_1_e) rfl (fun _ h => (by cases h)) ext_nil (fun q h => (by cases h)) (enF c60_1_k) (fun _ h => (by cases h))

noncomputable def c60_2 : Ct := (60, 1, (11, [qtA 0, qtN 1 0 1000], [], [qvR 0, qvK (.ofNat 2)], zh99, []),
  [((11, [], [], [qvK (.ofNat 1)], zh99, []), 0, 0)])
noncomputable def c60_2_e : List Ct := []
noncomputable def c60_2_pts : List PE := []
set_option maxRecDepth 100000 in
theorem c60_2_k : enCtF c60_2 c60_2_e (pkP (c60_2_pts ++ []) []) (none) noH 3000 = true := by decide +kernel
set_option maxRecDepth 100000 in
theorem c60_2_v : ValidC PPk c60_2 := ct_ok fpk noH_ok (d := 0) (ext := []) (pts := c60_2_pts) (env := c60_2_e) rfl (fun _ h => (by cases h)) ext_nil (fun q h => (by cases h)) (enF c60_2_k) (fun _ h => (by cases h))

noncomputable def zh106 : AH := [zc22, zc15, qrC 4 [some 3, some 8], zc16, qkC 100 0, qkC 100 1, qkC 100 2, qkC 100 3, zc17, qkC 100 4, qkC 100 5, qkC 100 6, qkC 100 7, zc18, qkC 100 8, qkC 100 9, qkC 100 10, qkC 100 11, qkC 100 12, qkC 100 13, qkC 100 14, zc19, qkC 100 15, qkC 100 16, qkC 100 17, qkC 100 18, qkC 100 19, qkC 100 20, zc20, qkC 102 21, qkC 100 22, qjC 1 1000000060, zc21, qkC 100 23, qkC 100 24, qkC 100 25, qkC 100 26, qkC 100 27, qkC 100 28, qkC 100 29, qkC 100 30, qjC 1 1000000006, qjC 1 1000000004, zc100, zc101, zc40, qkC 100 33, zc41, qkC 100 34, zc24, qkC 100 35, zc25, qkC 100 36, zc102, qkC 100 37, qiC 0 [qgN 8 0 0], qiC 0 [qgN 8 0 0], qkC 100 38, qkC 100 39]
noncomputable def c58_0 : Ct := (58, 2, (40, [qtA 31, qtN 32 0 1000], [], [qvR 0, qvR 43], zh106, []),
  [((40, [], [], [], zh106, []), 0, 0)])
noncomputable def c58_0_e : List Ct := [c59_0, c60_0, c60_1, c60_2]
noncomputable def c58_0_pts : List PE := []
set_option maxRecDepth 100000 in
theorem c58_0_k : enCtF c58_0 c58_0_e (pkP (c58_0_pts ++ []) []) (none) noH 9000 = true := by decide +kernel
set_option maxRecDepth 100000 in
theorem c58_0_v : ValidC PPk c58_0 := ct_ok fpk noH_ok (d := 1) (ext := []) (pts := c58_0_pts) (env := c58_0_e) rfl (List.forall_mem_cons.mpr ⟨⟨c59_0_v, Nat.le_of_ble_eq_true rfl⟩, List.forall_mem_cons.mpr ⟨⟨c60_0_v, Nat.le_of_ble_eq_true rfl⟩, List.forall_mem_cons.mpr ⟨⟨c60_1_v, Nat.le_of_ble_eq_true rfl⟩, List.forall_mem_cons.mpr ⟨⟨c60_2_v, Nat.le_of_ble_eq_true rfl⟩, fun _ h => (by cases h)⟩⟩⟩⟩) ext_nil (fun q h => (by cases h)) (enF c58_0_k) (fun _ h => (by cases h))

noncomputable def zh107 : AH := [zc22, zc15, qrC 4 [some 3, some 8], zc16, qkC 100 0, qkC 100 1, qkC 100 2, qkC 100 3, zc17, qkC 100 4, qkC 100 5, qkC 100 6, qkC 100 7, zc18, qkC 100 8, qkC 100 9, qkC 100 10, qkC 100 11, qkC 100 12, qkC 100 13, qkC 100 14, zc19, qkC 100 15, qkC 100 16, qkC 100 17, qkC 100 18, qkC 100 19, qkC 100 20, zc20, qkC 102 21, qkC 100 22, qjC 1 1000000060, zc21, qkC 100 23, qkC 100 24, qkC 100 25, qkC 100 26, qkC 100 27, qkC 100 28, qkC 100 29, qkC 100 30, qjC 1 1000000006, qjC 1 1000000004, zc100, zc101, zc40, qkC 100 33, zc41, qkC 100 34, zc24, qkC 100 35, zc25, qkC 100 36, zc102, qkC 100 37, qiC 0 [qgN 8 0 0], qkC 100 38, qkC 100 39, qkC 100 40]
noncomputable def c66_0 : Ct := (66, 2, (41, [qtA 31, qtN 32 0 1000], [], [qvR 0, qvR 43], zh107, []),
  [((41, [], [], [], zh107, []), 0, 0)])
noncomputable def c66_0_e : List Ct := [c60_0, c60_1, c60_2]
noncomputable def c66_0_pts : List PE := []
set_option maxRecDepth 100000 in
theorem c66_0_k : enCtF c66_0 c66_0_e (pkP (c66_0_pts ++ []) []) (none) noH 9000 = true := by decide +kernel
set_option maxRecDepth 100000 in
theorem c66_0_v : ValidC PPk c66_0 := ct_ok fpk noH_ok (d := 1) (ext := []) (pts := c66_0_pts) (env := c66_0_e) rfl (List.forall_mem_cons.mpr ⟨⟨c60_0_v, Nat.le_of_ble_eq_true rfl⟩, List.forall_mem_cons.mpr ⟨⟨c60_1_v, Nat.le_of_ble_eq_true rfl⟩, List.forall_mem_cons.mpr ⟨⟨c60_2_v, Nat.le_of_ble_eq_true rfl⟩, fun _ h => (by cases h)⟩⟩⟩) ext_nil (fun q h => (by cases h)) (enF c66_0_k) (fun _ h => (by cases h))

noncomputable def c76_0 : Ct := (76, 1, (42, [qtA 31, qtN 32 0 1000], [], [qvR 0, qvR 43], zh103, []),
  [((42, [], [], [], zh103, []), 0, 0)])
noncomputable def c76_0_e : List Ct := []
noncomputable def c76_0_pts : List PE := []
set_option maxRecDepth 100000 in
theorem c76_0_k : enCtF c76_0 c76_0_e (pkP (c76_0_pts ++ []) []) (none) noH 9000 = true := by decide +kernel
set_option maxRecDepth 100000 in
theorem c76_0_v : ValidC PPk c76_0 := ct_ok fpk noH_ok (d := 0) (ext := []) (pts := c76_0_pts) (env := c76_0_e) rfl (fun _ h => (by cases h)) ext_nil (fun q h => (by cases h)) (enF c76_0_k) (fun _ h => (by cases h))

noncomputable def zh108 : AH := [zc11, qkC 100 0, qkC 100 1, qkC 100 2]
noncomputable def c73_0 : Ct := (73, 1, (3, [], [], [qvR 0, qvK (.ofNat 0)], zh108, []),
  [((3, [], [], [qvK (.ofNat 0)], zh108, []), 0, 0)])
noncomputable def c73_0_e : List Ct := []
noncomputable def c73_0_pts : List PE := []
set_option maxRecDepth 100000 in
theorem c73_0_k : enCtF c73_0 c73_0_e (pkP (c73_0_pts ++ []) []) (none) noH 3000 = true := by decide +kernel
set_option maxRecDepth 100000 in
theorem c73_0_v : ValidC PPk c73_0 := ct_ok fpk noH_ok (d := 0) (ext := []) (pts := c73_0_pts) (env := c73_0_e) rfl (fun _ h => (by cases h)) ext_nil (fun q h => (by cases h)) (enF c73_0_k) (fun _ h => (by cases h))

noncomputable def c78_0 : Ct := (78, 1, (0, [], [], [.inl (true, ((.ofNat 0), [])), .inl (true, ((.negSucc 99), [])), .inl (true, ((.ofNat 100), []))], [], []),
  [((0, [], [], [.inl (true, ((.ofNat 0), []))], [], []), 0, 0)])
noncomputable def c78_0_e : List Ct := []
noncomputable def c78_0_pts : List PE := []
set_option maxRecDepth 100000 in
theorem c78_0_k : enCtF c78_0 c78_0_e (pkP (c78_0_pts ++ []) []) (none) noH 3000 = true := by decide +kernel
set_option maxRecDepth 100000 in
theorem c78_0_v : ValidC PPk c78_0 := ct_ok fpk noH_ok (d := 0) (ext := []) (pts := c78_0_pts) (env := c78_0_e) rfl (fun _ h => (by cases h)) ext_nil (fun q h => (by cases h)) (enF c78_0_k) (fun _ h => (by cases h))

noncomputable def zc109 : AC := qoC 7 [qvR 44, qvK (.ofNat 7), qvR 53, qvR 57, qvR 58, qvK (.ofNat 0), qvK (.ofNat 0), qvK (.ofNat 0), qvS 29, qvK (.ofNat 0), qvK (.ofNat 0), qvS 30, qvK (.ofNat 0), qvK (.ofNat 0), qvK (.ofNat 0), qvK (.ofNat 0), qvK (.negSucc 0)]
noncomputable def zh110 : AH := [zc22, zc15, qrC 4 [some 3, some 8], zc16, qkC 100 0, qkC 100 1, qkC 100 2, qkC 100 3, zc17, qkC 100 4, qkC 100 5, qkC 100 6, qkC 100 7, zc18, qkC 100 8, qkC 100 9, qkC 100 10, qkC 100 11, qkC 100 12, qkC 100 13, qkC 100 14, zc19, qkC 100 15, qkC 100 16, qkC 100 17, qkC 100 18, zc64, qiC 0 [qgN 4 100 100], zc20, qkC 102 19, qkC 100 20, qjC 1 1000000060, zc21, qkC 100 21, qkC 100 22, qkC 100 23, qkC 100 24, qkC 100 25, qkC 100 26, qkC 100 27, qkC 100 28, qjC 1 1000000006, qjC 1 1000000004, zc109, zc101, zc40, qkC 100 31, zc41, qkC 100 32, zc24, qkC 100 33, zc25, qkC 100 34, zc102, qkC 100 35, qkC 100 36, qkC 100 37, qkC 100 38, qkC 100 39]
noncomputable def c77_0 : Ct := (77, 2, (40, [qtA 29, qtN 30 0 1000], [], [qvR 0, qvR 43], zh110, []),
  [((40, [], [], [], zh110, []), 0, 0)])
noncomputable def c77_0_e : List Ct := [c73_0, c78_0]
noncomputable def c77_0_pts : List PE := []
set_option maxRecDepth 100000 in
theorem c77_0_k : enCtF c77_0 c77_0_e (pkP (c77_0_pts ++ []) []) (none) noH 3000 = true := by decide +kernel
set_option maxRecDepth 100000 in
theorem c77_0_v : ValidC PPk c77_0 := ct_ok fpk noH_ok (d := 1) (ext := []) (pts := c77_0_pts) (env := c77_0_e) rfl (List.forall_mem_cons.mpr ⟨⟨c73_0_v, Nat.le_of_ble_eq_true rfl⟩, List.forall_mem_cons.mpr ⟨⟨c78_0_v, Nat.le_of_ble_eq_true rfl⟩, fun _ h => (by cases h)⟩⟩) ext_nil (fun q h => (by cases h)) (enF c77_0_k) (fun _ h => (by cases h))

noncomputable def c75_0 : Ct := (75, 1, (0, [], [], [.inl (true, ((.ofNat 0), []))], [], []),
  [((0, [], [], [.inl (true, ((.ofNat 0), []))], [], []), 0, 0)])
noncomputable def c75_0_e : List Ct := []
noncomputable def c75_0_pts : List PE := []
set_option maxRecDepth 100000 in
theorem c75_0_k : enCtF c75_0 c75_0_e (pkP (c75_0_pts ++ []) []) (none) noH 3000 = true := by decide +kernel
set_option maxRecDepth 100000 in
theorem c75_0_v : ValidC PPk c75_0 := ct_ok fpk noH_ok (d := 0) (ext := []) (pts := c75_0_pts) (env := c75_0_e) rfl (fun _ h => (by cases h)) ext_nil (fun q h => (by cases h)) (enF c75_0_k) (fun _ h => (by cases h))

noncomputable def c78_1 : Ct := (78, 1, (0, [], [], [.inl (true, ((.negSucc 9), [])), .inl (true, ((.negSucc 999999), [])), .inl (true, ((.ofNat 1000000), []))], [], []),
  [((0, [], [], [.inl (true, ((.negSucc 9), []))], [], []), 0, 0)])
noncomputable def c78_1_e : List Ct := []
noncomputable def c78_1_pts : List PE := []
set_option maxRecDepth 100000 in
theorem c78_1_k : enCtF c78_1 c78_1_e (pkP (c78_1_pts ++ []) []) (none) noH 3000 = true := by decide +kernel
set_option maxRecDepth 100000 in
theorem c78_1_v : ValidC PPk c78_1 := ct_ok fpk noH_ok (d := 0) (ext := []) (pts := c78_1_pts) (env := c78_1_e) rfl (fun _ h => (by cases h)) ext_nil (fun q h => (by cases h)) (enF c78_1_k) (fun _ h => (by cases h))

noncomputable def c79_0 : Ct := (79, 2, (42, [qtA 31, qtN 32 0 1000], [], [qvR 0, qvR 43], zh103, []),
  [((43, [qtA 42], [], [], [zc22, zc15, qrC 4 [some 3, some 8], zc16, qkC 100 0, qkC 100 1, qkC 100 2, qkC 100 3, zc17, qkC 100 4, qkC 100 5, qkC 100 6, qkC 100 7, zc18, qkC 100 8, qkC 100 9, qkC 100 10, qkC 100 11, qkC 100 12, qkC 100 13, qkC 100 14, zc19, qkC 100 15, qkC 100 16, qkC 100 17, qkC 100 18, qkC 100 19, qkC 100 20, zc20, qkC 102 21, qkC 100 22, qjC 1 1000000060, zc21, qkC 100 23, qkC 100 24, qkC 100 25, qkC 100 26, qkC 100 27, qkC 100 28, qkC 100 29, qkC 100 30, qjC 1 1000000006, qjC 1 1000000004, qoC 7 [qvR 44, qvK (.ofNat 7), qvR 53, qvR 57, qvR 58, qvK (.ofNat 0), qvK (.ofNat 0), qvK (.ofNat 0), qvS 42, qvK (.ofNat 0), qvK (.ofNat 0), qvS 32, qvK (.ofNat 0), qvK (.ofNat 0), qvK (.ofNat 0), qvK (.ofNat 0), qvK (.negSucc 0)], zc101, zc40, qkC 100 33, zc41, qkC 100 34, zc24, qkC 100 35, zc25, qkC 100 36, zc102, qkC 100 37, qkC 100 38, qkC 100 39, qkC 100 40, qkC 100 41], []), 0, 0)])
noncomputable def c79_0_e : List Ct := [c75_0, c78_1]
noncomputable def c79_0_pts : List PE := []
set_option maxRecDepth 100000 in
theorem c79_0_k : enCtF c79_0 c79_0_e (pkP (c79_0_pts ++ []) []) (none) noH 3000 = true := by decide +kernel
set_option maxRecDepth 100000 in
theorem c79_0_v : ValidC PPk c79_0 := ct_ok fpk noH_ok (d := 1) (ext := []) (pts := c79_0_pts) (env := c79_0_e) rfl (List.forall_mem_cons.mpr ⟨⟨c75_0_v, Nat.le_of_ble_eq_true rfl⟩, List.forall_mem_cons.mpr ⟨⟨c78_1_v, Nat.le_of_ble_eq_true rfl⟩, fun _ h => (by cases h)⟩⟩) ext_nil (fun q h => (by cases h)) (enF c79_0_k) (fun _ h => (by cases h))

noncomputable def c80_0 : Ct := (80, 1, (42, [qtA 31, qtN 32 0 1000], [], [qvR 0, qvR 43, qvK (.ofNat 7)], zh103, []),
  [((42, [], [], [], zh103, []), 0, 0)])
noncomputable def c80_0_e : List Ct := []
noncomputable def c80_0_pts : List PE := []
set_option maxRecDepth 100000 in
theorem c80_0_k : enCtF c80_0 c80_0_e (pkP (c80_0_pts ++ []) []) (none) noH 9000 = true := by decide +kernel
set_option maxRecDepth 100000 in
theorem c80_0_v : ValidC PPk c80_0 := ct_ok fpk noH_ok (d := 0) (ext := []) (pts := c80_0_pts) (env := c80_0_e) rfl (fun _ h => (by cases h)) ext_nil (fun q h => (by cases h)) (enF c80_0_k) (fun _ h => (by cases h))

noncomputable def c82_0 : Ct := (82, 1, (42, [qtA 31, qtN 32 0 1000], [], [qvR 0, qvR 43], zh103, []),
  [((42, [], [], [], zh103, []), 0, 0)])
noncomputable def c82_0_e : List Ct := []
noncomputable def c82_0_pts : List PE := []
set_option maxRecDepth 100000 in
theorem c82_0_k : enCtF c82_0 c82_0_e (pkP (c82_0_pts ++ []) []) (none) noH 3000 = true := by decide +kernel
set_option maxRecDepth 100000 in
theorem c82_0_v : ValidC PPk c82_0 := ct_ok fpk noH_ok (d := 0) (ext := []) (pts := c82_0_pts) (env := c82_0_e) rfl (fun _ h => (by cases h)) ext_nil (fun q h => (by cases h)) (enF c82_0_k) (fun _ h => (by cases h))

noncomputable def c87_0 : Ct := (87, 1, (42, [qtA 31, qtN 32 0 1001], [], [qvR 0, qvR 43], zh103, []),
  [((42, [], [], [], zh103, []), 0, 0)])
noncomputable def c87_0_e : List Ct := []
noncomputable def c87_0_pts : List PE := []
set_option maxRecDepth 100000 in
theorem c87_0_k : enCtF c87_0 c87_0_e (pkP (c87_0_pts ++ []) []) (none) noH 9000 = true := by decide +kernel
set_option maxRecDepth 100000 in
theorem c87_0_v : ValidC PPk c87_0 := ct_ok fpk noH_ok (d := 0) (ext := []) (pts := c87_0_pts) (env := c87_0_e) rfl (fun _ h => (by cases h)) ext_nil (fun q h => (by cases h)) (enF c87_0_k) (fun _ h => (by cases h))

noncomputable def c50_0 : Ct := (50, 3, (37, [qtA 29, qtN 30 0 1000], [], [qvR 0, qvR 43], [zc22, zc15, qrC 4 [some 3, some 8], zc16, qkC 100 0, qkC 100 1, qkC 100 2, qkC 100 3, zc17, qkC 100 4, qkC 100 5, qkC 100 6, qkC 100 7, zc18, qkC 100 8, qkC 100 9, qkC 100 10, qkC 100 11, qkC 100 12, qkC 100 13, qkC 100 14, zc19, qkC 100 15, qkC 100 16, qkC 100 17, qkC 100 18, zc64, qiC 0 [qgN 4 100 100], zc20, qkC 102 19, qkC 100 20, qjC 1 1000000060, zc21, qkC 100 21, qkC 100 22, qkC 100 23, qkC 100 24, qkC 100 25, qkC 100 26, qkC 100 27, qkC 100 28, qjC 1 1000000006, qjC 1 1000000004, zc109, zc101, zc40, qkC 100 31, zc41, qkC 100 32, zc24, qkC 100 33, zc25, qkC 100 34, zc102, qkC 100 35, qiC 0 [qgN 8 0 0], qiC 0 [qgN 8 0 0], qiC 0 [qgN 2 0 0], qkC 100 36], []),
  [((38, [qtA 37], [], [], [zc22, zc15, qrC 4 [some 3, some 8], zc16, qkC 100 0, qkC 100 1, qkC 100 2, qkC 100 3, zc17, qkC 100 4, qkC 100 5, qkC 100 6, qkC 100 7, zc18, qkC 100 8, qkC 100 9, qkC 100 10, qkC 100 11, qkC 100 12, qkC 100 13, qkC 100 14, zc19, qkC 100 15, qkC 100 16, qkC 100 17, qkC 100 18, zc64, qiC 0 [qgN 4 100 100], zc20, qkC 102 19, qkC 100 20, qjC 1 1000000060, zc21, qkC 100 21, qkC 100 22, qkC 100 23, qkC 100 24, qkC 100 25, qkC 100 26, qkC 100 27, qkC 100 28, qjC 1 1000000006, qjC 1 1000000004, qoC 7 [qvR 44, qvK (.ofNat 7), qvR 53, qvR 57, qvR 58, qvK (.ofNat 0), qvK (.ofNat 0), qvK (.ofNat 0), qvS 37, qvK (.ofNat 0), qvK (.ofNat 0), .inl (false, ((.ofNat 1), [(30, (.ofNat 1))])), qvK (.ofNat 0), qvK (.ofNat 0), qvK (.ofNat 0), qvK (.ofNat 0), qvK (.negSucc 0)], zc101, zc40, qkC 100 31, zc41, qkC 100 32, zc24, qkC 100 33, zc25, qkC 100 34, zc102, qkC 100 35, qiC 0 [qgN 8 0 0], qiC 0 [qgN 8 0 0], qiC 0 [qgN 2 0 0], qkC 100 36], []), 0, 0)])
noncomputable def c50_0_e : List Ct := [c51_0, c52_0, c55_0, c58_0, c66_0, c76_0, c77_0, c79_0, c80_0, c82_0, c87_0]
noncomputable def c50_0_pts : List PE := []
set_option maxRecDepth 100000 in
theorem c50_0_k : enCtF c50_0 c50_0_e (pkP (c50_0_pts ++ []) []) (none) noH 3000 = true := by decide +kernel
set_option maxRecDepth 100000 in
theorem c50_0_v : ValidC PPk c50_0 := ct_ok fpk noH_ok (d := 2) (ext := []) (pts := c50_0_pts) (env := c50_0_e) rfl (List.forall_mem_cons.mpr ⟨⟨c51_0_v, Nat.le_of_ble_eq_true rfl⟩, List.forall_mem_cons.mpr ⟨⟨c52_0_v, Nat.le_of_ble_eq_true rfl⟩, List.forall_mem_cons.mpr ⟨⟨c55_0_v, Nat.le_of_ble_eq_true rfl⟩, List.forall_mem_cons.mpr ⟨⟨c58_0_v, Nat.le_of_ble_eq_true rfl⟩, List.forall_mem_cons.mpr ⟨⟨c66_0_v, Nat.le_of_ble_eq_true rfl⟩, List.forall_mem_cons.mpr ⟨⟨c76_0_v, Nat.le_of_ble_eq_true rfl⟩, List.forall_mem_cons.mpr ⟨⟨c77_0_v, Nat.le_of_ble_eq_true rfl⟩, List.forall_mem_cons.mpr ⟨⟨c79_0_v, Nat.le_of_ble_eq_true rfl⟩, List.forall_mem_cons.mpr ⟨⟨c80_0_v, Nat.le_of_ble_eq_true rfl⟩, List.forall_mem_cons.mpr ⟨⟨c82_0_v, Nat.le_of_ble_eq_true rfl⟩, List.forall_mem_cons.mpr ⟨⟨c87_0_v, Nat.le_of_ble_eq_true rfl⟩, fun _ h => (by cases h)⟩⟩⟩⟩⟩⟩⟩⟩⟩⟩⟩) ext_nil (fun q h => (by cases h)) (enF c50_0_k) (fun _ h => (by cases h))

noncomputable def c49_0 : Ct := (49, 4, (1, [qtA 0], [], [qvR 0, qvS 0], zh43, []),
  [((1, [(0, (.negSucc 2147483647), (.ofNat 0))], [], [qvK (.negSucc 1999)], zh43, []), 0, 0),
   ((1, [qtN 0 101 2147483647], [], [qvK (.negSucc 1999)], zh43, []), 0, 0),
   ((3, [qtN 0 1 100, qtA 1, qtN 2 1 100], [((.ofNat 0), [(0, (.ofNat 1)), (2, (.negSucc 0))])], [qvK (.ofNat 0)], [zc23, zc15, qrC 4 [some 3, some 8], zc16, qiC 0 [qgN 60 0 0], qiC 0 [qgN 60 0 0], qiC 0 [qgN 60 0 0], qiC 0 [qgN 60 0 0], zc17, qiC 0 [qgN 60 0 0], qiC 0 [qgN 60 0 0], qiC 0 [qgN 60 0 0], qiC 0 [qgN 60 0 0], zc18, qiC 0 [qgN 6 0 0], qiC 0 [qgN 6 0 0], qiC 0 [qgN 8 0 0], qiC 0 [qgN 8 0 0], qiC 0 [qgN 8 0 0], qiC 0 [qgN 8 0 0], qiC 0 [qgN 8 0 0], zc19, qiC 0 [qgN 6 0 0], qiC 0 [qgN 6 0 0], qiC 0 [qgN 6 0 0], qiC 0 [qgN 6 0 0], zc64, qiC 0 [qgN 4 100 100], zc20, qiC 2 [qgN 60 0 0], qiC 0 [qgN 60 0 0], qjC 1 1000000060, zc21, qiC 0 [qgN 8 0 0], qiC 0 [qgN 8 0 0], qiC 0 [qgN 8 0 0], qiC 0 [qgN 8 0 0], qiC 0 [qgN 8 0 0], qiC 0 [qgN 10 0 0], qiC 0 [qgN 4 0 0], qiC 0 [qgN 4 0 0], qoC 7 [qvR 42, qvK (.ofNat 7), qvR 51, qvR 55, qvR 56, qvK (.ofNat 0), qvK (.ofNat 0), qvK (.ofNat 0), qvS 1, qvK (.ofNat 0), qvK (.ofNat 0), qvS 2, qvK (.ofNat 0), qvK (.ofNat 0), qvK (.ofNat 0), qvK (.ofNat 0), qvK (.negSucc 0)], zc38, zc39, qiC 0 [qgN 12 0 0], zc40, qiC 0 [qgN 12 0 0], zc41, qiC 0 [qgN 12 0 0], zc24, qiC 0 [qgN 12 0 0], zc42, qiC 0 [qgN 32 0 0], qiC 0 [qgN 8 0 0], qiC 0 [qgN 8 0 0], qiC 0 [qgN 2 0 0], qiC 0 [qgN 6 0 0], zc26, qjC 1 1000000006, qjC 1 1000000004, qrC 6 [none, none], qrC 7 [none, none]], []), 0, 0)])
noncomputable def c49_0_e : List Ct := [c12_23, c50_0]
noncomputable def c49_0_p0 : PE := (16, [0, 1, 2], (3, [qtN 0 1 100, qtN 1 0 100, qtA 2], [], [qvR 0, qvS 0, qvS 1], [zc23, zc15, qrC 4 [some 3, some 8], zc16, qiC 0 [qgN 60 0 0], qiC 0 [qgN 60 0 0], qiC 0 [qgN 60 0 0], qiC 0 [qgN 60 0 0], zc17, qiC 0 [qgN 60 0 0], qiC 0 [qgN 60 0 0], qiC 0 [qgN 60 0 0], qiC 0 [qgN 60 0 0], zc18, qiC 0 [qgN 6 0 0], qiC 0 [qgN 6 0 0], qiC 0 [qgN 8 0 0], qiC 0 [qgN 8 0 0], qiC 0 [qgN 8 0 0], qiC 0 [qgN 8 0 0], qiC 0 [qgN 8 0 0], zc19, qiC 0 [qgN 6 0 0], qiC 0 [qgN 6 0 0], qiC 0 [qgN 6 0 0], qiC 0 [qgN 6 0 0], zc64, qiC 0 [qgN 4 100 100], zc20, qiC 2 [qgN 60 0 0], qiC 0 [qgN 60 0 0], qjC 1 1000000060, zc21, qiC 0 [qgN 8 0 0], qiC 0 [qgN 8 0 0], qiC 0 [qgN 8 0 0], qiC 0 [qgN 8 0 0], qiC 0 [qgN 8 0 0], qiC 0 [qgN 10 0 0], qiC 0 [qgN 4 0 0], qiC 0 [qgN 4 0 0], qoC 7 [qvR 42, qvK (.ofNat 7), qvR 51, qvR 55, qvR 56, qvK (.ofNat 0), qvK (.ofNat 0), qvK (.ofNat 0), qvS 2, qvK (.ofNat 0), qvK (.ofNat 0), qvS 1, qvK (.ofNat 0), qvK (.ofNat 0), qvK (.ofNat 0), qvK (.ofNat 0), qvK (.negSucc 0)], zc38, zc39, qiC 0 [qgN 12 0 0], zc40, qiC 0 [qgN 12 0 0], zc41, qiC 0 [qgN 12 0 0], zc24, qiC 0 [qgN 12 0 0], zc42, qiC 0 [qgN 32 0 0], qiC 0 [qgN 8 0 0], qiC 0 [qgN 8 0 0], qiC 0 [qgN 2 0 0], qiC 0 [qgN 6 0 0], zc26, qjC 1 1000000006, qjC 1 1000000004, qrC 6 [none, none], qrC 7 [none, none]], []), symsL 1 0, some ((.ofNat 201), [(1, (.negSucc 0))]), 0, 0)
noncomputable def c49_0_pts : List PE := [c49_0_p0]
set_option maxRecDepth 100000 in
theorem c49_0_k : enCtF c49_0 c49_0_e (pkP (c49_0_pts ++ []) [0]) (none) (noF, noM, 65536, 0, 1) 3000 = true := by decide +kernel
set_option maxRecDepth 100000 in
theorem c49_0_k0 : ptCtF c49_0 c49_0_e (pkP (c49_0_pts ++ []) [0]) (noF, noM, 65536, 0, 1) 3000 c49_0_p0 = true := by decide +kernel
set_option maxRecDepth 100000 in
theorem c49_0_v : ValidC PPk c49_0 := ct_ok fpk ⟨noF_ok, noM_ok⟩ (d := 3) (ext := []) (pts := c49_0_pts) (env := c49_0_e) rfl (List.forall_mem_cons.mpr ⟨⟨c12_23_v, Nat.le_of_ble_eq_true rfl⟩, List.forall_mem_cons.mpr ⟨⟨c50_0_v, Nat.le_of_ble_eq_true rfl⟩, fun _ h => (by cases h)⟩⟩) ext_nil (fun q h => (by cases h)) (enF c49_0_k) (List.forall_mem_cons.mpr ⟨⟨_, ptF c49_0_k0⟩, fun _ h => (by cases h)⟩)

noncomputable def c145_23 : Ct := (145, 1, (1, [qtA 0], [], [qvS 0, qvK (.ofNat 1), qvK (.ofNat 100)], [], []),
  [((1, [(0, (.negSucc 2147483647), (.ofNat 0))], [], [qvK (.ofNat 0)], [], []), 0, 0),
   ((1, [qtN 0 101 2147483647], [], [qvK (.ofNat 0)], [], []), 0, 0),
   ((1, [qtN 0 1 100], [], [qvK (.ofNat 1)], [], []), 0, 0)])
noncomputable def c145_23_e : List Ct := []
noncomputable def c145_23_pts : List PE := []
set_option maxRecDepth 100000 in
theorem c145_23_k : enCtF c145_23 c145_23_e (pkP (c145_23_pts ++ []) []) (none) noH 3000 = true := by decide +kernel
set_option maxRecDepth 100000 in
theorem c145_23_v : ValidC PPk c145_23 := ct_ok fpk noH_ok (d := 0) (ext := []) (pts := c145_23_pts) (env := c145_23_e) rfl (fun _ h => (by cases h)) ext_nil (fun q h => (by cases h)) (enF c145_23_k) (fun _ h => (by cases h))

noncomputable def c171_0 : Ct := (171, 1, (60, (zt1 []), [], [qvR 0], zh96, []),
  [((60, [], [], [], zh96, []), 0, 0)])
noncomputable def c171_0_e : List Ct := []
noncomputable def c171_0_pts : List PE := []
set_option maxRecDepth 100000 in
theorem c171_0_k : enCtF c171_0 c171_0_e (pkP (c171_0_pts ++ []) []) (none) noH 3000 = true := by decide +kernel
set_option maxRecDepth 100000 in
theorem c171_0_v : ValidC PPk c171_0 := ct_ok fpk noH_ok (d := 0) (ext := []) (pts := c171_0_pts) (env := c171_0_e) rfl (fun _ h => (by cases h)) ext_nil (fun q h => (by cases h)) (enF c171_0_k) (fun _ h => (by cases h))

noncomputable def c172_0 : Ct := (172, 1, (60, (zt1 []), [], [qvR 0], zh96, []),
  [((60, [], [], [], zh96, []), 0, 0)])
noncomputable def c172_0_e : List Ct := []
noncomputable def c172_0_p0 : PE := (2, [0, 1], (60, (zt1 []), [], [qvR 0, qvK (.ofNat 0)], zh96, []), symsL 60 0, some ((.ofNat 1), []), 0, 0)
noncomputable def c172_0_pts : List PE := [c172_0_p0]
set_option maxRecDepth 100000 in
theorem c172_0_k : enCtF c172_0 c172_0_e (pkP (c172_0_pts ++ []) [0]) (none) (noF, noM, 4, 0, 60) 3000 = true := by decide +kernel
set_option maxRecDepth 100000 in
theorem c172_0_k0 : ptCtF c172_0 c172_0_e (pkP (c172_0_pts ++ []) []) (noF, noM, 4, 0, 60) 3000 c172_0_p0 = true := by decide +kernel
set_option maxRecDepth 100000 in
theorem c172_0_v : ValidC PPk c172_0 := ct_ok fpk ⟨noF_ok, noM_ok⟩ (d := 0) (ext := []) (pts := c172_0_pts) (env := c172_0_e) rfl (fun _ h => (by cases h)) ext_nil (fun q h => (by cases h)) (enF c172_0_k) (List.forall_mem_cons.mpr ⟨⟨_, ptF c172_0_k0⟩, fun _ h => (by cases h)⟩)

noncomputable def c175_0 : Ct := (175, 1, (60, (zt1 []), [], [qvR 0, qvK (.ofNat 0), qvK (.ofNat 12)], zh96, []),
  [((60, [], [], [qvK (.ofNat 1)], zh96, []), 0, 0)])
noncomputable def c175_0_e : List Ct := []
noncomputable def c175_0_pts : List PE := []
set_option maxRecDepth 100000 in
theorem c175_0_k : enCtF c175_0 c175_0_e (pkP (c175_0_pts ++ []) []) (none) noH 3000 = true := by decide +kernel
set_option maxRecDepth 100000 in
theorem c175_0_v : ValidC PPk c175_0 := ct_ok fpk noH_ok (d := 0) (ext := []) (pts := c175_0_pts) (env := c175_0_e) rfl (fun _ h => (by cases h)) ext_nil (fun q h => (by cases h)) (enF c175_0_k) (fun _ h => (by cases h))

noncomputable def c175_1 : Ct := (175, 1, (60, (zt1 []), [], [qvR 0, qvK (.ofNat 1), qvK (.ofNat 12)], zh96, []),
  [((60, [], [], [qvK (.ofNat 1)], zh96, []), 0, 0)])
noncomputable def c175_1_e : List Ct := []
noncomputable def c175_1_pts : List PE := []
set_option maxRecDepth 100000 in
theorem c175_1_k : enCtF c175_1 c175_1_e (pkP (c175_1_pts ++ []) []) (none) noH 3000 = true := by decide +kernel
set_option maxRecDepth 100000 in
theorem c175_1_v : ValidC PPk c175_1 := ct_ok fpk noH_ok (d := 0) (ext := []) (pts := c175_1_pts) (env := c175_1_e) rfl (fun _ h => (by cases h)) ext_nil (fun q h => (by cases h)) (enF c175_1_k) (fun _ h => (by cases h))

noncomputable def c175_2 : Ct := (175, 1, (60, (zt1 []), [], [qvR 0, qvK (.ofNat 2), qvK (.ofNat 12)], zh96, []),
  [((60, [], [], [qvK (.ofNat 1)], zh96, []), 0, 0)])
noncomputable def c175_2_e : List Ct := []
noncomputable def c175_2_pts : List PE := []
set_option maxRecDepth 100000 in
theorem c175_2_k : enCtF c175_2 c175_2_e (pkP (c175_2_pts ++ []) []) (none) noH 3000 = true := by decide +kernel
set_option maxRecDepth 100000 in
theorem c175_2_v : ValidC PPk c175_2 := ct_ok fpk noH_ok (d := 0) (ext := []) (pts := c175_2_pts) (env := c175_2_e) rfl (fun _ h => (by cases h)) ext_nil (fun q h => (by cases h)) (enF c175_2_k) (fun _ h => (by cases h))

noncomputable def c179_0 : Ct := (179, 1, (11, [], [], [qvR 0], zh94, []),
  [((11, [], [], [.inl (true, ((.ofNat 0), []))], zh94, []), 0, 0)])
noncomputable def c179_0_e : List Ct := []
noncomputable def c179_0_pts : List PE := []
set_option maxRecDepth 100000 in
theorem c179_0_k : enCtF c179_0 c179_0_e (pkP (c179_0_pts ++ []) []) (none) noH 3000 = true := by decide +kernel
set_option maxRecDepth 100000 in
theorem c179_0_v : ValidC PPk c179_0 := ct_ok fpk noH_ok (d := 0) (ext := []) (pts := c179_0_pts) (env := c179_0_e) rfl (fun _ h => (by cases h)) ext_nil (fun q h => (by cases h)) (enF c179_0_k) (fun _ h => (by cases h))

noncomputable def c176_0 : Ct := (176, 2, (60, (zt1 []), [], [qvR 0], zh96, []),
  [((60, [], [], [], zh96, []), 0, 0)])
noncomputable def c176_0_e : List Ct := [c179_0]
noncomputable def c176_0_p0 : PE := (2, [0, 1, 2], (61, (zt1 [qtN 60 1 2]), [], [qvR 0, qvS 60, qvK (.ofNat 0)], zh96, []), symsL 60 0, some ((.ofNat 35), [(60, (.negSucc 3))]), 0, 0)
noncomputable def c176_0_p1 : PE := (2, [0, 1], (60, (zt1 []), [], [qvR 0, qvK (.ofNat 0)], zh96, []), symsL 60 0, some ((.ofNat 35), []), 0, 0)
noncomputable def c176_0_p2 : PE := (14, [0, 1, 2], (61, (zt1 [qtN 60 0 1]), [], [qvR 0, qvS 60, qvK (.ofNat 0)], zh96, []), symsL 60 0, some ((.ofNat 33), [(60, (.negSucc 3))]), 0, 0)
noncomputable def c176_0_pts : List PE := [c176_0_p0, c176_0_p1, c176_0_p2]
set_option maxRecDepth 100000 in
theorem c176_0_k : enCtF c176_0 c176_0_e (pkP (c176_0_pts ++ []) [1]) (none) (noF, noM, 16388, 0, 60) 3000 = true := by decide +kernel
set_option maxRecDepth 100000 in
theorem c176_0_k0 : ptCtF c176_0 c176_0_e (pkP (c176_0_pts ++ []) [2]) (noF, noM, 16388, 0, 60) 3000 c176_0_p0 = true := by decide +kernel
set_option maxRecDepth 100000 in
theorem c176_0_k1 : ptCtF c176_0 c176_0_e (pkP (c176_0_pts ++ []) [2]) (noF, noM, 16388, 0, 60) 3000 c176_0_p1 = true := by decide +kernel
set_option maxRecDepth 100000 in
theorem c176_0_k2 : ptCtF c176_0 c176_0_e (pkP (c176_0_pts ++ []) [0]) (noF, noM, 16388, 0, 60) 3000 c176_0_p2 = true := by decide +kernel
set_option maxRecDepth 100000 in
theorem c176_0_v : ValidC PPk c176_0 := ct_ok fpk ⟨noF_ok, noM_ok⟩ (d := 1) (ext := []) (pts := c176_0_pts) (env := c176_0_e) rfl (List.forall_mem_cons.mpr ⟨⟨c179_0_v, Nat.le_of_ble_eq_true rfl⟩, fun _ h => (by cases h)⟩) ext_nil (fun q h => (by cases h)) (enF c176_0_k) (List.forall_mem_cons.mpr ⟨⟨_, ptF c176_0_k0⟩, List.forall_mem_cons.mpr ⟨⟨_, ptF c176_0_k1⟩, List.forall_mem_cons.mpr ⟨⟨_, ptF c176_0_k2⟩, fun _ h => (by cases h)⟩⟩⟩)

noncomputable def c180_0 : Ct := (180, 2, (60, (zt1 []), [], [qvR 0], zh96, []),
  [((60, [], [], [], zh96, []), 0, 0)])
noncomputable def c180_0_e : List Ct := [c175_0, c175_1, c175_2]
noncomputable def c180_0_p0 : PE := (10, [0, 1], (60, (zt1 []), [], [qvR 0, qvK (.ofNat 0)], zh96, []), symsL 60 0, some ((.ofNat 59983), []), 0, 0)
noncomputable def c180_0_p1 : PE := (10, [0, 1, 2], (60, (zt1 []), [], [qvR 0, qvK (.ofNat 1), qvK (.ofNat 8)], zh96, []), symsL 60 0, some ((.ofNat 57974), []), 0, 0)
noncomputable def c180_0_p2 : PE := (10, [0, 1, 2], (60, (zt1 []), [], [qvR 0, qvK (.ofNat 2), qvK (.ofNat 8)], zh96, []), symsL 60 0, some ((.ofNat 55965), []), 0, 0)
noncomputable def c180_0_p3 : PE := (10, [0, 1, 2], (60, (zt1 []), [], [qvR 0, qvK (.ofNat 3), qvK (.ofNat 8)], zh96, []), symsL 60 0, some ((.ofNat 53956), []), 0, 0)
noncomputable def c180_0_p4 : PE := (10, [0, 1, 2], (60, (zt1 []), [], [qvR 0, qvK (.ofNat 4), qvK (.ofNat 8)], zh96, []), symsL 60 0, some ((.ofNat 51947), []), 0, 0)
noncomputable def c180_0_p5 : PE := (17, [0, 1, 2], (61, (zt1 [qtN 60 0 8]), [], [qvR 0, qvK (.ofNat 0), qvS 60], zh96, []), symsL 60 0, some ((.ofNat 59471), [(60, (.negSucc 6))]), 0, 0)
noncomputable def c180_0_p6 : PE := (17, [0, 1, 2], (61, (zt1 [qtN 60 0 8]), [], [qvR 0, qvK (.ofNat 1), qvS 60], zh96, []), symsL 60 0, some ((.ofNat 57462), [(60, (.negSucc 6))]), 0, 0)
noncomputable def c180_0_p7 : PE := (17, [0, 1, 2], (61, (zt1 [qtN 60 0 8]), [], [qvR 0, qvK (.ofNat 2), qvS 60], zh96, []), symsL 60 0, some ((.ofNat 55453), [(60, (.negSucc 6))]), 0, 0)
noncomputable def c180_0_p8 : PE := (17, [0, 1, 2], (61, (zt1 [qtN 60 0 8]), [], [qvR 0, qvK (.ofNat 3), qvS 60], zh96, []), symsL 60 0, some ((.ofNat 53444), [(60, (.negSucc 6))]), 0, 0)
noncomputable def c180_0_p9 : PE := (71, [0, 1, 2], (60, (zt1 []), [], [qvR 0, qvK (.ofNat 0), qvK (.ofNat 8)], zh96, []), symsL 60 0, some ((.ofNat 37884), []), 0, 0)
noncomputable def c180_0_p10 : PE := (71, [0, 1, 2, 3], (60, (zt1 []), [], [qvR 0, qvK (.ofNat 1), qvK (.ofNat 40), qvK (.ofNat 0)], zh96, []), symsL 60 0, some ((.ofNat 35875), []), 0, 0)
noncomputable def c180_0_p11 : PE := (71, [0, 1, 2, 3], (60, (zt1 []), [], [qvR 0, qvK (.ofNat 2), qvK (.ofNat 40), qvK (.ofNat 0)], zh96, []), symsL 60 0, some ((.ofNat 33866), []), 0, 0)
noncomputable def c180_0_p12 : PE := (71, [0, 1, 2, 3], (60, (zt1 []), [], [qvR 0, qvK (.ofNat 3), qvK (.ofNat 40), qvK (.ofNat 0)], zh96, []), symsL 60 0, some ((.ofNat 31857), []), 0, 0)
noncomputable def c180_0_p13 : PE := (83, [0, 1, 2], (60, (zt1 []), [], [qvR 0, qvK (.ofNat 0), qvK (.ofNat 0)], zh96, []), symsL 60 0, some ((.ofNat 37022), []), 0, 0)
noncomputable def c180_0_p14 : PE := (83, [0, 1, 2, 3], (61, (zt1 [qtN 60 1 40]), [], [qvR 0, qvK (.ofNat 0), qvS 60, qvK (.ofNat 0)], zh96, []), symsL 60 0, some ((.ofNat 37022), [(60, (.negSucc 6))]), 0, 0)
noncomputable def c180_0_p15 : PE := (83, [0, 1, 2, 3], (61, (zt1 [qtN 60 0 40]), [], [qvR 0, qvK (.ofNat 1), qvS 60, qvK (.ofNat 0)], zh96, []), symsL 60 0, some ((.ofNat 35013), [(60, (.negSucc 6))]), 0, 0)
noncomputable def c180_0_p16 : PE := (83, [0, 1, 2, 3], (61, (zt1 [qtN 60 0 40]), [], [qvR 0, qvK (.ofNat 2), qvS 60, qvK (.ofNat 0)], zh96, []), symsL 60 0, some ((.ofNat 33004), [(60, (.negSucc 6))]), 0, 0)
noncomputable def c180_0_p17 : PE := (102, [0, 1, 2, 3], (61, (zt1 [qtN 60 0 39]), [], [qvR 0, qvK (.ofNat 0), qvS 60, qvK (.ofNat 0)], zh96, []), symsL 60 0, some ((.ofNat 37017), [(60, (.negSucc 6))]), 0, 0)
noncomputable def c180_0_p18 : PE := (102, [0, 1, 2, 3], (61, (zt1 [qtN 60 0 39]), [], [qvR 0, qvK (.ofNat 1), qvS 60, qvK (.ofNat 0)], zh96, []), symsL 60 0, some ((.ofNat 35008), [(60, (.negSucc 6))]), 0, 0)
noncomputable def c180_0_p19 : PE := (102, [0, 1, 2, 3], (61, (zt1 [qtN 60 0 39]), [], [qvR 0, qvK (.ofNat 2), qvS 60, qvK (.ofNat 0)], zh96, []), symsL 60 0, some ((.ofNat 32999), [(60, (.negSucc 6))]), 0, 0)
noncomputable def c180_0_pts : List PE := [c180_0_p0, c180_0_p1, c180_0_p2, c180_0_p3, c180_0_p4, c180_0_p5, c180_0_p6, c180_0_p7, c180_0_p8, c180_0_p9, c180_0_p10, c180_0_p11, c180_0_p12, c180_0_p13, c180_0_p14, c180_0_p15, c180_0_p16, c180_0_p17, c180_0_p18, c180_0_p19]
set_option maxRecDepth 100000 in
theorem c180_0_k : enCtF c180_0 c180_0_e (pkP (c180_0_pts ++ []) [0]) (none) (noF, noM, 5070612074680657764455033209856, 0, 60) 3000 = true := by decide +kernel
set_option maxRecDepth 100000 in
theorem c180_0_k0 : ptCtF c180_0 c180_0_e (pkP (c180_0_pts ++ []) [5]) (noF, noM, 5070612074680657764455033209856, 0, 60) 3000 c180_0_p0 = true := by decide +kernel
set_option maxRecDepth 100000 in
theorem c180_0_k1 : ptCtF c180_0 c180_0_e (pkP (c180_0_pts ++ []) [6]) (noF, noM, 5070612074680657764455033209856, 0, 60) 3000 c180_0_p1 = true := by decide +kernel
set_option maxRecDepth 100000 in
theorem c180_0_k2 : ptCtF c180_0 c180_0_e (pkP (c180_0_pts ++ []) [7]) (noF, noM, 5070612074680657764455033209856, 0, 60) 3000 c180_0_p2 = true := by decide +kernel
set_option maxRecDepth 100000 in
theorem c180_0_k3 : ptCtF c180_0 c180_0_e (pkP (c180_0_pts ++ []) [8]) (noF, noM, 5070612074680657764455033209856, 0, 60) 3000 c180_0_p3 = true := by decide +kernel
set_option maxRecDepth 100000 in
theorem c180_0_k4 : ptCtF c180_0 c180_0_e (pkP (c180_0_pts ++ []) [9]) (noF, noM, 5070612074680657764455033209856, 0, 60) 3000 c180_0_p4 = true := by decide +kernel
set_option maxRecDepth 100000 in
theorem c180_0_k5 : ptCtF c180_0 c180_0_e (pkP (c180_0_pts ++ []) [1, 5]) (noF, noM, 5070612074680657764455033209856, 0, 60) 3000 c180_0_p5 = true := by decide +kernel
set_option maxRecDepth 100000 in
theorem c180_0_k6 : ptCtF c180_0 c180_0_e (pkP (c180_0_pts ++ []) [2, 6]) (noF, noM, 5070612074680657764455033209856, 0, 60) 3000 c180_0_p6 = true := by decide +kernel
set_option maxRecDepth 100000 in
theorem c180_0_k7 : ptCtF c180_0 c180_0_e (pkP (c180_0_pts ++ []) [3, 7]) (noF, noM, 5070612074680657764455033209856, 0, 60) 3000 c180_0_p7 = true := by decide +kernel
set_option maxRecDepth 100000 in
theorem c180_0_k8 : ptCtF c180_0 c180_0_e (pkP (c180_0_pts ++ []) [4, 8]) (noF, noM, 5070612074680657764455033209856, 0, 60) 3000 c180_0_p8 = true := by decide +kernel
set_option maxRecDepth 100000 in
theorem c180_0_k9 : ptCtF c180_0 c180_0_e (pkP (c180_0_pts ++ []) [13]) (noF, noM, 5070612074680657764455033209856, 0, 60) 3000 c180_0_p9 = true := by decide +kernel
set_option maxRecDepth 100000 in
theorem c180_0_k10 : ptCtF c180_0 c180_0_e (pkP (c180_0_pts ++ []) [15]) (noF, noM, 5070612074680657764455033209856, 0, 60) 3000 c180_0_p10 = true := by decide +kernel
set_option maxRecDepth 100000 in
theorem c180_0_k11 : ptCtF c180_0 c180_0_e (pkP (c180_0_pts ++ []) [16]) (noF, noM, 5070612074680657764455033209856, 0, 60) 3000 c180_0_p11 = true := by decide +kernel
set_option maxRecDepth 100000 in
theorem c180_0_k12 : ptCtF c180_0 c180_0_e (pkP (c180_0_pts ++ []) []) (noF, noM, 5070612074680657764455033209856, 0, 60) 3000 c180_0_p12 = true := by decide +kernel
set_option maxRecDepth 100000 in
theorem c180_0_k13 : ptCtF c180_0 c180_0_e (pkP (c180_0_pts ++ []) [17]) (noF, noM, 5070612074680657764455033209856, 0, 60) 3000 c180_0_p13 = true := by decide +kernel
set_option maxRecDepth 100000 in
theorem c180_0_k14 : ptCtF c180_0 c180_0_e (pkP (c180_0_pts ++ []) [10, 17]) (noF, noM, 5070612074680657764455033209856, 0, 60) 3000 c180_0_p14 = true := by decide +kernel
set_option maxRecDepth 100000 in
theorem c180_0_k15 : ptCtF c180_0 c180_0_e (pkP (c180_0_pts ++ []) [11, 18]) (noF, noM, 5070612074680657764455033209856, 0, 60) 3000 c180_0_p15 = true := by decide +kernel
set_option maxRecDepth 100000 in
theorem c180_0_k16 : ptCtF c180_0 c180_0_e (pkP (c180_0_pts ++ []) [12, 19]) (noF, noM, 5070612074680657764455033209856, 0, 60) 3000 c180_0_p16 = true := by decide +kernel
set_option maxRecDepth 100000 in
theorem c180_0_k17 : ptCtF c180_0 c180_0_e (pkP (c180_0_pts ++ []) [14]) (noF, noM, 5070612074680657764455033209856, 0, 60) 3000 c180_0_p17 = true := by decide +kernel
set_option maxRecDepth 100000 in
theorem c180_0_k18 : ptCtF c180_0 c180_0_e (pkP (c180_0_pts ++ []) [15]) (noF, noM, 5070612074680657764455033209856, 0, 60) 3000 c180_0_p18 = true := by decide +kernel
set_option maxRecDepth 100000 in
theorem c180_0_k19 : ptCtF c180_0 c180_0_e (pkP (c180_0_pts ++ []) [16]) (noF, noM, 5070612074680657764455033209856, 0, 60) 3000 c180_0_p19 = true := by decide +kernel
set_option maxRecDepth 100000 in
theorem c180_0_v : ValidC PPk c180_0 := ct_ok fpk ⟨noF_ok, noM_ok⟩ (d := 1) (ext := []) (pts := c180_0_pts) (env := c180_0_e) rfl (List.forall_mem_cons.mpr ⟨⟨c175_0_v, Nat.le_of_ble_eq_true rfl⟩, List.forall_mem_cons.mpr ⟨⟨c175_1_v, Nat.le_of_ble_eq_true rfl⟩, List.forall_mem_cons.mpr ⟨⟨c175_2_v, Nat.le_of_ble_eq_true rfl⟩, fun _ h => (by cases h)⟩⟩⟩) ext_nil (fun q h => (by cases h)) (enF c180_0_k) (List.forall_mem_cons.mpr ⟨⟨_, ptF c180_0_k0⟩, List.forall_mem_cons.mpr ⟨⟨_, ptF c180_0_k1⟩, List.forall_mem_cons.mpr ⟨⟨_, ptF c180_0_k2⟩, List.forall_mem_cons.mpr ⟨⟨_, ptF c180_0_k3⟩, List.forall_mem_cons.mpr ⟨⟨_, ptF c180_0_k4⟩, List.forall_mem_cons.mpr ⟨⟨_, ptF c180_0_k5⟩, List.forall_mem_cons.mpr ⟨⟨_, ptF c180_0_k6⟩, List.forall_mem_cons.mpr ⟨⟨_, ptF c180_0_k7⟩, List.forall_mem_cons.mpr ⟨⟨_, ptF c180_0_k8⟩, List.forall_mem_cons.mpr ⟨⟨_, ptF c180_0_k9⟩, List.forall_mem_cons.mpr ⟨⟨_, ptF c180_0_k10⟩, List.forall_mem_cons.mpr ⟨⟨_, ptF c180_0_k11⟩, List.forall_mem_cons.mpr ⟨⟨_, ptF c180_0_k12⟩, List.forall_mem_cons.mpr ⟨⟨_, ptF c180_0_k13⟩, List.forall_mem_cons.mpr ⟨⟨_, ptF c180_0_k14⟩, List.forall_mem_cons.mpr ⟨⟨_, ptF c180_0_k15⟩, List.forall_mem_cons.mpr ⟨⟨_, ptF c180_0_k16⟩, List.forall_mem_cons.mpr ⟨⟨_, ptF c180_0_k17⟩, List.forall_mem_cons.mpr ⟨⟨_, ptF c180_0_k18⟩, List.forall_mem_cons.mpr ⟨⟨_, ptF c180_0_k19⟩, fun _ h => (by cases h)⟩⟩⟩⟩⟩⟩⟩⟩⟩⟩⟩⟩⟩⟩⟩⟩⟩⟩⟩⟩)

noncomputable def c175_3 : Ct := (175, 1, (60, (zt1 []), [], [qvR 0, qvK (.ofNat 0), qvK (.ofNat 15)], zh96, []),
  [((60, [], [], [qvK (.ofNat 0)], zh96, []), 0, 0)])
noncomputable def c175_3_e : List Ct := []
noncomputable def c175_3_pts : List PE := []
set_option maxRecDepth 100000 in
theorem c175_3_k : enCtF c175_3 c175_3_e (pkP (c175_3_pts ++ []) []) (none) noH 3000 = true := by decide +kernel
set_option maxRecDepth 100000 in
theorem c175_3_v : ValidC PPk c175_3 := ct_ok fpk noH_ok (d := 0) (ext := []) (pts := c175_3_pts) (env := c175_3_e) rfl (fun _ h => (by cases h)) ext_nil (fun q h => (by cases h)) (enF c175_3_k) (fun _ h => (by cases h))

noncomputable def c185_0 : Ct := (185, 2, (60, (zt1 []), [], [qvR 0, qvK (.ofNat 0)], zh96, []),
  [((60, [], [], [qvK (.ofNat 1)], zh96, []), 0, 0)])
noncomputable def c185_0_e : List Ct := [c175_0, c175_3]
noncomputable def c185_0_pts : List PE := []
set_option maxRecDepth 100000 in
theorem c185_0_k : enCtF c185_0 c185_0_e (pkP (c185_0_pts ++ []) []) (none) noH 3000 = true := by decide +kernel
set_option maxRecDepth 100000 in
theorem c185_0_v : ValidC PPk c185_0 := ct_ok fpk noH_ok (d := 1) (ext := []) (pts := c185_0_pts) (env := c185_0_e) rfl (List.forall_mem_cons.mpr ⟨⟨c175_0_v, Nat.le_of_ble_eq_true rfl⟩, List.forall_mem_cons.mpr ⟨⟨c175_3_v, Nat.le_of_ble_eq_true rfl⟩, fun _ h => (by cases h)⟩⟩) ext_nil (fun q h => (by cases h)) (enF c185_0_k) (fun _ h => (by cases h))

noncomputable def c175_4 : Ct := (175, 1, (60, (zt1 []), [], [qvR 0, qvK (.ofNat 0), qvK (.ofNat 25)], zh96, []),
  [((60, [], [], [qvK (.ofNat 0)], zh96, []), 0, 0)])
noncomputable def c175_4_e : List Ct := []
noncomputable def c175_4_pts : List PE := []
set_option maxRecDepth 100000 in
theorem c175_4_k : enCtF c175_4 c175_4_e (pkP (c175_4_pts ++ []) []) (none) noH 3000 = true := by decide +kernel
set_option maxRecDepth 100000 in
theorem c175_4_v : ValidC PPk c175_4 := ct_ok fpk noH_ok (d := 0) (ext := []) (pts := c175_4_pts) (env := c175_4_e) rfl (fun _ h => (by cases h)) ext_nil (fun q h => (by cases h)) (enF c175_4_k) (fun _ h => (by cases h))

noncomputable def zc111 : AC := qiC 0 [qgN 1 3 3, qgN 7 0 0, qgN 1 3 3, qgN 1 5 5, qgN 4 0 0, qgS 1, qgN 2 0 0, qgN 1 100 100, qgN 1 0 0, qgS 2, .inr (1, (.negSucc 0), (.negSucc 0)), qgN 9 0 0, qgS 3, qgS 4, qgS 5, qgS 6, qgS 7, qgS 8, qgS 9, qgS 10, qgS 11, qgS 12, qgS 13, qgS 14, qgN 1 1 1, qgN 27 0 0, qgS 15, qgS 16, qgS 17, qgS 18, qgS 19, qgS 20, qgS 21, qgS 22, qgS 23, qgS 24, qgS 25, qgS 26, qgN 1 1 1, qgN 27 0 0, qgS 27, qgS 28, qgS 29, qgS 30, qgS 31, qgS 32, qgS 33, qgS 34, qgS 35, qgS 36, qgS 37, qgS 38, qgN 1 1 1, qgN 27 0 0, qgS 39, qgS 40, qgS 41, qgS 42, qgS 43, qgS 44, qgS 45, qgS 46, qgS 47, qgS 48, qgS 49, qgS 50, qgN 1 1 1, qgN 621 0 0, .inr (1, (.negSucc 99), (.negSucc 99)), qgN 1 100 100, .inr (1, (.negSucc 99), (.negSucc 99)), qgN 1 100 100, .inr (1, (.negSucc 99), (.negSucc 99)), qgN 1 100 100, .inr (1, (.negSucc 99), (.negSucc 99)), qgN 1 100 100, qgN 118 0 0]
noncomputable def zh112 : AH := [zc27, zc111, qkC 100 51, qkC 103 52, qkC 100 53, qkC 100 54, qkC 100 55, qjC 1 1000000070, qjC 1 1000000008, qkC 100 56, qkC 100 57, qkC 100 58, qkC 100 59, qkC 100 60, qjC 1 1000000004]
noncomputable def c186_0 : Ct := (186, 3, (61, [qtN 0 0 7, qtN 1 0 1001, qtA 2, qtA 3, qtA 4, qtA 5, qtA 6, qtA 7, qtA 8, qtA 9, qtA 10, qtA 11, qtA 12, qtA 13, qtA 14, qtA 15, qtA 16, qtA 17, qtA 18, qtA 19, qtA 20, qtA 21, qtA 22, qtA 23, qtA 24, qtA 25, qtA 26, qtA 27, qtA 28, qtA 29, qtA 30, qtA 31, qtA 32, qtA 33, qtA 34, qtA 35, qtA 36, qtA 37, qtA 38, qtA 39, qtA 40, qtA 41, qtA 42, qtA 43, qtA 44, qtA 45, qtA 46, qtA 47, qtA 48, qtA 49, qtA 50], [], [qvR 0, qvK (.ofNat 0), qvS 0], zh112, []),
  [((61, [], [], [qvK (.ofNat 0)], zh112, []), 0, 0)])
noncomputable def c186_0_e : List Ct := [c175_4, c185_0]
noncomputable def c186_0_pts : List PE := []
set_option maxRecDepth 100000 in
theorem c186_0_k : enCtF c186_0 c186_0_e (pkP (c186_0_pts ++ []) []) (none) noH 3000 = true := by decide +kernel
set_option maxRecDepth 100000 in
theorem c186_0_v : ValidC PPk c186_0 := ct_ok fpk noH_ok (d := 2) (ext := []) (pts := c186_0_pts) (env := c186_0_e) rfl (List.forall_mem_cons.mpr ⟨⟨c175_4_v, Nat.le_of_ble_eq_true rfl⟩, List.forall_mem_cons.mpr ⟨⟨c185_0_v, Nat.le_of_ble_eq_true rfl⟩, fun _ h => (by cases h)⟩⟩) ext_nil (fun q h => (by cases h)) (enF c186_0_k) (fun _ h => (by cases h))

noncomputable def c175_5 : Ct := (175, 1, (60, (zt1 []), [], [qvR 0, qvK (.ofNat 1), qvK (.ofNat 15)], zh96, []),
  [((60, [], [], [qvK (.ofNat 0)], zh96, []), 0, 0)])
noncomputable def c175_5_e : List Ct := []
noncomputable def c175_5_pts : List PE := []
set_option maxRecDepth 100000 in
theorem c175_5_k : enCtF c175_5 c175_5_e (pkP (c175_5_pts ++ []) []) (none) noH 3000 = true := by decide +kernel
set_option maxRecDepth 100000 in
theorem c175_5_v : ValidC PPk c175_5 := ct_ok fpk noH_ok (d := 0) (ext := []) (pts := c175_5_pts) (env := c175_5_e) rfl (fun _ h => (by cases h)) ext_nil (fun q h => (by cases h)) (enF c175_5_k) (fun _ h => (by cases h))

noncomputable def c185_1 : Ct := (185, 2, (60, (zt1 []), [], [qvR 0, qvK (.ofNat 1)], zh96, []),
  [((60, [], [], [qvK (.ofNat 1)], zh96, []), 0, 0)])
noncomputable def c185_1_e : List Ct := [c175_1, c175_5]
noncomputable def c185_1_pts : List PE := []
set_option maxRecDepth 100000 in
theorem c185_1_k : enCtF c185_1 c185_1_e (pkP (c185_1_pts ++ []) []) (none) noH 3000 = true := by decide +kernel
set_option maxRecDepth 100000 in
theorem c185_1_v : ValidC PPk c185_1 := ct_ok fpk noH_ok (d := 1) (ext := []) (pts := c185_1_pts) (env := c185_1_e) rfl (List.forall_mem_cons.mpr ⟨⟨c175_1_v, Nat.le_of_ble_eq_true rfl⟩, List.forall_mem_cons.mpr ⟨⟨c175_5_v, Nat.le_of_ble_eq_true rfl⟩, fun _ h => (by cases h)⟩⟩) ext_nil (fun q h => (by cases h)) (enF c185_1_k) (fun _ h => (by cases h))

noncomputable def c175_6 : Ct := (175, 1, (60, (zt1 []), [], [qvR 0, qvK (.ofNat 1), qvK (.ofNat 25)], zh96, []),
  [((60, [], [], [qvK (.ofNat 0)], zh96, []), 0, 0)])
noncomputable def c175_6_e : List Ct := []
noncomputable def c175_6_pts : List PE := []
set_option maxRecDepth 100000 in
theorem c175_6_k : enCtF c175_6 c175_6_e (pkP (c175_6_pts ++ []) []) (none) noH 3000 = true := by decide +kernel
set_option maxRecDepth 100000 in
theorem c175_6_v : ValidC PPk c175_6 := ct_ok fpk noH_ok (d := 0) (ext := []) (pts := c175_6_pts) (env := c175_6_e) rfl (fun _ h => (by cases h)) ext_nil (fun q h => (by cases h)) (enF c175_6_k) (fun _ h => (by cases h))

noncomputable def c186_1 : Ct := (186, 3, (61, [qtN 0 0 7, qtN 1 0 1001, qtA 2, qtA 3, qtA 4, qtA 5, qtA 6, qtA 7, qtA 8, qtA 9, qtA 10, qtA 11, qtA 12, qtA 13, qtA 14, qtA 15, qtA 16, qtA 17, qtA 18, qtA 19, qtA 20, qtA 21, qtA 22, qtA 23, qtA 24, qtA 25, qtA 26, qtA 27, qtA 28, qtA 29, qtA 30, qtA 31, qtA 32, qtA 33, qtA 34, qtA 35, qtA 36, qtA 37, qtA 38, qtA 39, qtA 40, qtA 41, qtA 42, qtA 43, qtA 44, qtA 45, qtA 46, qtA 47, qtA 48, qtA 49, qtA 50], [], [qvR 0, qvK (.ofNat 1), qvS 0], zh112, []),
  [((61, [], [], [qvK (.ofNat 0)], zh112, []), 0, 0)])
noncomputable def c186_1_e : List Ct := [c175_6, c185_1]
noncomputable def c186_1_pts : List PE := []
set_option maxRecDepth 100000 in
theorem c186_1_k : enCtF c186_1 c186_1_e (pkP (c186_1_pts ++ []) []) (none) noH 3000 = true := by decide +kernel
set_option maxRecDepth 100000 in
theorem c186_1_v : ValidC PPk c186_1 := ct_ok fpk noH_ok (d := 2) (ext := []) (pts := c186_1_pts) (env := c186_1_e) rfl (List.forall_mem_cons.mpr ⟨⟨c175_6_v, Nat.le_of_ble_eq_true rfl⟩, List.forall_mem_cons.mpr ⟨⟨c185_1_v, Nat.le_of_ble_eq_true rfl⟩, fun _ h => (by cases h)⟩⟩) ext_nil (fun q h => (by cases h)) (enF c186_1_k) (fun _ h => (by cases h))

noncomputable def c175_7 : Ct := (175, 1, (60, (zt1 []), [], [qvR 0, qvK (.ofNat 2), qvK (.ofNat 15)], zh96, []),
  [((60, [], [], [qvK (.ofNat 0)], zh96, []), 0, 0)])
noncomputable def c175_7_e : List Ct := []
noncomputable def c175_7_pts : List PE := []
set_option maxRecDepth 100000 in
theorem c175_7_k : enCtF c175_7 c175_7_e (pkP (c175_7_pts ++ []) []) (none) noH 3000 = true := by decide +kernel
set_option maxRecDepth 100000 in
theorem c175_7_v : ValidC PPk c175_7 := ct_ok fpk noH_ok (d := 0) (ext := []) (pts := c175_7_pts) (env := c175_7_e) rfl (fun _ h => (by cases h)) ext_nil (fun q h => (by cases h)) (enF c175_7_k) (fun _ h => (by cases h))

noncomputable def c185_2 : Ct := (185, 2, (60, (zt1 []), [], [qvR 0, qvK (.ofNat 2)], zh96, []),
  [((60, [], [], [qvK (.ofNat 1)], zh96, []), 0, 0)])
noncomputable def c185_2_e : List Ct := [c175_2, c175_7]
noncomputable def c185_2_pts : List PE := []
set_option maxRecDepth 100000 in
theorem c185_2_k : enCtF c185_2 c185_2_e (pkP (c185_2_pts ++ []) []) (none) noH 3000 = true := by decide +kernel
set_option maxRecDepth 100000 in
theorem c185_2_v : ValidC PPk c185_2 := ct_ok fpk noH_ok (d := 1) (ext := []) (pts := c185_2_pts) (env := c185_2_e) rfl (List.forall_mem_cons.mpr ⟨⟨c175_2_v, Nat.le_of_ble_eq_true rfl⟩, List.forall_mem_cons.mpr ⟨⟨c175_7_v, Nat.le_of_ble_eq_true rfl⟩, fun _ h => (by cases h)⟩⟩) ext_nil (fun q h => (by cases h)) (enF c185_2_k) (fun _ h => (by cases h))

noncomputable def c175_8 : Ct := (175, 1, (60, (zt1 []), [], [qvR 0, qvK (.ofNat 2), qvK (.ofNat 25)], zh96, []),
  [((60, [], [], [qvK (.ofNat 0)], zh96, []), 0, 0)])
noncomputable def c175_8_e : List Ct := []
noncomputable def c175_8_pts : List PE := []
set_option maxRecDepth 100000 in
theorem c175_8_k : enCtF c175_8 c175_8_e (pkP (c175_8_pts ++ []) []) (none) noH 3000 = true := by decide +kernel
set_option maxRecDepth 100000 in
theorem c175_8_v : ValidC PPk c175_8 := ct_ok fpk noH_ok (d := 0) (ext := []) (pts := c175_8_pts) (env := c175_8_e) rfl (fun _ h => (by cases h)) ext_nil (fun q h => (by cases h)) (enF c175_8_k) (fun _ h => (by cases h))

noncomputable def c186_2 : Ct := (186, 3, (61, [qtN 0 0 7, qtN 1 0 1001, qtA 2, qtA 3, qtA 4, qtA 5, qtA 6, qtA 7, qtA 8, qtA 9, qtA 10, qtA 11, qtA 12, qtA 13, qtA 14, qtA 15, qtA 16, qtA 17, qtA 18, qtA 19, qtA 20, qtA 21, qtA 22, qtA 23, qtA 24, qtA 25, qtA 26, qtA 27, qtA 28, qtA 29, qtA 30, qtA 31, qtA 32, qtA 33, qtA 34, qtA 35, qtA 36, qtA 37, qtA 38, qtA 39, qtA 40, qtA 41, qtA 42, qtA 43, qtA 44, qtA 45, qtA 46, qtA 47, qtA 48, qtA 49, qtA 50], [], [qvR 0, qvK (.ofNat 2), qvS 0], zh112, []),
  [((61, [], [], [qvK (.ofNat 0)], zh112, []), 0, 0)])
noncomputable def c186_2_e : List Ct := [c175_8, c185_2]
noncomputable def c186_2_pts : List PE := []
set_option maxRecDepth 100000 in
theorem c186_2_k : enCtF c186_2 c186_2_e (pkP (c186_2_pts ++ []) []) (none) noH 3000 = true := by decide +kernel
set_option maxRecDepth 100000 in
theorem c186_2_v : ValidC PPk c186_2 := ct_ok fpk noH_ok (d := 2) (ext := []) (pts := c186_2_pts) (env := c186_2_e) rfl (List.forall_mem_cons.mpr ⟨⟨c175_8_v, Nat.le_of_ble_eq_true rfl⟩, List.forall_mem_cons.mpr ⟨⟨c185_2_v, Nat.le_of_ble_eq_true rfl⟩, fun _ h => (by cases h)⟩⟩) ext_nil (fun q h => (by cases h)) (enF c186_2_k) (fun _ h => (by cases h))

noncomputable def c184_0 : Ct := (184, 4, (61, [qtN 0 0 7, qtN 1 0 1001, qtA 2, qtA 3, qtA 4, qtA 5, qtA 6, qtA 7, qtA 8, qtA 9, qtA 10, qtA 11, qtA 12, qtA 13, qtA 14, qtA 15, qtA 16, qtA 17, qtA 18, qtA 19, qtA 20, qtA 21, qtA 22, qtA 23, qtA 24, qtA 25, qtA 26, qtA 27, qtA 28, qtA 29, qtA 30, qtA 31, qtA 32, qtA 33, qtA 34, qtA 35, qtA 36, qtA 37, qtA 38, qtA 39, qtA 40, qtA 41, qtA 42, qtA 43, qtA 44, qtA 45, qtA 46, qtA 47, qtA 48, qtA 49, qtA 50], [], [qvR 0, qvS 0], zh112, []),
  [((61, [], [], [], zh112, []), 0, 0)])
noncomputable def c184_0_e : List Ct := [c185_0, c185_1, c185_2, c186_0, c186_1, c186_2]
noncomputable def c184_0_pts : List PE := []
set_option maxRecDepth 100000 in
theorem c184_0_k : enCtF c184_0 c184_0_e (pkP (c184_0_pts ++ []) []) (none) noH 9000 = true := by decide +kernel
set_option maxRecDepth 100000 in
theorem c184_0_v : ValidC PPk c184_0 := ct_ok fpk noH_ok (d := 3) (ext := []) (pts := c184_0_pts) (env := c184_0_e) rfl (List.forall_mem_cons.mpr ⟨⟨c185_0_v, Nat.le_of_ble_eq_true rfl⟩, List.forall_mem_cons.mpr ⟨⟨c185_1_v, Nat.le_of_ble_eq_true rfl⟩, List.forall_mem_cons.mpr ⟨⟨c185_2_v, Nat.le_of_ble_eq_true rfl⟩, List.forall_mem_cons.mpr ⟨⟨c186_0_v, Nat.le_of_ble_eq_true rfl⟩, List.forall_mem_cons.mpr ⟨⟨c186_1_v, Nat.le_of_ble_eq_true rfl⟩, List.forall_mem_cons.mpr ⟨⟨c186_2_v, Nat.le_of_ble_eq_true rfl⟩, fun _ h => (by cases h)⟩⟩⟩⟩⟩⟩) ext_nil (fun q h => (by cases h)) (enF c184_0_k) (fun _ h => (by cases h))

noncomputable def c187_0 : Ct := (187, 1, (60, (zt1 []), [], [qvR 0, qvK (.ofNat 0)], zh96, []),
  [((60, [], [], [qvK (.ofNat 0)], zh96, []), 0, 0)])
noncomputable def c187_0_e : List Ct := []
noncomputable def c187_0_p0 : PE := (2, [0, 1, 2], (60, (zt1 []), [], [qvR 0, qvK (.ofNat 0), qvK (.ofNat 0)], zh96, []), symsL 60 0, some ((.ofNat 17), []), 0, 0)
noncomputable def c187_0_p1 : PE := (2, [0, 1, 2, 3], (62, (zt1 [qtN 60 1 8, qtN 61 716 910]), [], [qvR 0, qvK (.ofNat 0), qvS 60, qvS 61], zh96, []), symsL 60 0, some ((.ofNat 17), [(60, (.negSucc 0))]), 0, 0)
noncomputable def c187_0_pts : List PE := [c187_0_p0, c187_0_p1]
set_option maxRecDepth 100000 in
theorem c187_0_k : enCtF c187_0 c187_0_e (pkP (c187_0_pts ++ []) [0]) (none) (noF, noM, 4, 0, 60) 3000 = true := by decide +kernel
set_option maxRecDepth 100000 in
theorem c187_0_k0 : ptCtF c187_0 c187_0_e (pkP (c187_0_pts ++ []) [1]) (noF, noM, 4, 0, 60) 3000 c187_0_p0 = true := by decide +kernel
set_option maxRecDepth 100000 in
theorem c187_0_k1 : ptCtF c187_0 c187_0_e (pkP (c187_0_pts ++ []) [1]) (noF, noM, 4, 0, 60) 3000 c187_0_p1 = true := by decide +kernel
set_option maxRecDepth 100000 in
theorem c187_0_v : ValidC PPk c187_0 := ct_ok fpk ⟨noF_ok, noM_ok⟩ (d := 0) (ext := []) (pts := c187_0_pts) (env := c187_0_e) rfl (fun _ h => (by cases h)) ext_nil (fun q h => (by cases h)) (enF c187_0_k) (List.forall_mem_cons.mpr ⟨⟨_, ptF c187_0_k0⟩, List.forall_mem_cons.mpr ⟨⟨_, ptF c187_0_k1⟩, fun _ h => (by cases h)⟩⟩)

noncomputable def c187_1 : Ct := (187, 1, (60, (zt1 []), [], [qvR 0, qvK (.ofNat 1)], zh96, []),
  [((60, [], [], [qvK (.ofNat 0)], zh96, []), 0, 0)])
noncomputable def c187_1_e : List Ct := []
noncomputable def c187_1_p0 : PE := (2, [0, 1, 2], (60, (zt1 []), [], [qvR 0, qvK (.ofNat 1), qvK (.ofNat 0)], zh96, []), symsL 60 0, some ((.ofNat 17), []), 0, 0)
noncomputable def c187_1_p1 : PE := (2, [0, 1, 2, 3], (62, (zt1 [qtN 60 1 8, qtN 61 716 910]), [], [qvR 0, qvK (.ofNat 1), qvS 60, qvS 61], zh96, []), symsL 60 0, some ((.ofNat 17), [(60, (.negSucc 0))]), 0, 0)
noncomputable def c187_1_pts : List PE := [c187_1_p0, c187_1_p1]
set_option maxRecDepth 100000 in
theorem c187_1_k : enCtF c187_1 c187_1_e (pkP (c187_1_pts ++ []) [0]) (none) (noF, noM, 4, 0, 60) 3000 = true := by decide +kernel
set_option maxRecDepth 100000 in
theorem c187_1_k0 : ptCtF c187_1 c187_1_e (pkP (c187_1_pts ++ []) [1]) (noF, noM, 4, 0, 60) 3000 c187_1_p0 = true := by decide +kernel
set_option maxRecDepth 100000 in
theorem c187_1_k1 : ptCtF c187_1 c187_1_e (pkP (c187_1_pts ++ []) [1]) (noF, noM, 4, 0, 60) 3000 c187_1_p1 = true := by decide +kernel
set_option maxRecDepth 100000 in
theorem c187_1_v : ValidC PPk c187_1 := ct_ok fpk ⟨noF_ok, noM_ok⟩ (d := 0) (ext := []) (pts := c187_1_pts) (env := c187_1_e) rfl (fun _ h => (by cases h)) ext_nil (fun q h => (by cases h)) (enF c187_1_k) (List.forall_mem_cons.mpr ⟨⟨_, ptF c187_1_k0⟩, List.forall_mem_cons.mpr ⟨⟨_, ptF c187_1_k1⟩, fun _ h => (by cases h)⟩⟩)

noncomputable def c187_2 : Ct := (187, 1, (60, (zt1 []), [], [qvR 0, qvK (.ofNat 2)], zh96, []),
  [((60, [], [], [qvK (.ofNat 0)], zh96, []), 0, 0)])
noncomputable def c187_2_e : List Ct := []
noncomputable def c187_2_p0 : PE := (2, [0, 1, 2], (60, (zt1 []), [], [qvR 0, qvK (.ofNat 2), qvK (.ofNat 0)], zh96, []), symsL 60 0, some ((.ofNat 17), []), 0, 0)
noncomputable def c187_2_p1 : PE := (2, [0, 1, 2, 3], (62, (zt1 [qtN 60 1 8, qtN 61 716 910]), [], [qvR 0, qvK (.ofNat 2), qvS 60, qvS 61], zh96, []), symsL 60 0, some ((.ofNat 17), [(60, (.negSucc 0))]), 0, 0)
noncomputable def c187_2_pts : List PE := [c187_2_p0, c187_2_p1]
set_option maxRecDepth 100000 in
theorem c187_2_k : enCtF c187_2 c187_2_e (pkP (c187_2_pts ++ []) [0]) (none) (noF, noM, 4, 0, 60) 3000 = true := by decide +kernel
set_option maxRecDepth 100000 in
theorem c187_2_k0 : ptCtF c187_2 c187_2_e (pkP (c187_2_pts ++ []) [1]) (noF, noM, 4, 0, 60) 3000 c187_2_p0 = true := by decide +kernel
set_option maxRecDepth 100000 in
theorem c187_2_k1 : ptCtF c187_2 c187_2_e (pkP (c187_2_pts ++ []) [1]) (noF, noM, 4, 0, 60) 3000 c187_2_p1 = true := by decide +kernel
set_option maxRecDepth 100000 in
theorem c187_2_v : ValidC PPk c187_2 := ct_ok fpk ⟨noF_ok, noM_ok⟩ (d := 0) (ext := []) (pts := c187_2_pts) (env := c187_2_e) rfl (fun _ h => (by cases h)) ext_nil (fun q h => (by cases h)) (enF c187_2_k) (List.forall_mem_cons.mpr ⟨⟨_, ptF c187_2_k0⟩, List.forall_mem_cons.mpr ⟨⟨_, ptF c187_2_k1⟩, fun _ h => (by cases h)⟩⟩)

noncomputable def c175_9 : Ct := (175, 1, (60, (zt1 []), [], [qvR 0, qvK (.ofNat 0), qvK (.ofNat 13)], zh96, []),
  [((60, [], [], [qvK (.ofNat 0)], zh96, []), 0, 0)])
noncomputable def c175_9_e : List Ct := []
noncomputable def c175_9_pts : List PE := []
set_option maxRecDepth 100000 in
theorem c175_9_k : enCtF c175_9 c175_9_e (pkP (c175_9_pts ++ []) []) (none) noH 3000 = true := by decide +kernel
set_option maxRecDepth 100000 in
theorem c175_9_v : ValidC PPk c175_9 := ct_ok fpk noH_ok (d := 0) (ext := []) (pts := c175_9_pts) (env := c175_9_e) rfl (fun _ h => (by cases h)) ext_nil (fun q h => (by cases h)) (enF c175_9_k) (fun _ h => (by cases h))

noncomputable def c175_10 : Ct := (175, 1, (60, (zt1 []), [], [qvR 0, qvK (.ofNat 1), qvK (.ofNat 13)], zh96, []),
  [((60, [], [], [qvK (.ofNat 0)], zh96, []), 0, 0)])
noncomputable def c175_10_e : List Ct := []
noncomputable def c175_10_pts : List PE := []
set_option maxRecDepth 100000 in
theorem c175_10_k : enCtF c175_10 c175_10_e (pkP (c175_10_pts ++ []) []) (none) noH 3000 = true := by decide +kernel
set_option maxRecDepth 100000 in
theorem c175_10_v : ValidC PPk c175_10 := ct_ok fpk noH_ok (d := 0) (ext := []) (pts := c175_10_pts) (env := c175_10_e) rfl (fun _ h => (by cases h)) ext_nil (fun q h => (by cases h)) (enF c175_10_k) (fun _ h => (by cases h))

noncomputable def c175_11 : Ct := (175, 1, (60, (zt1 []), [], [qvR 0, qvK (.ofNat 2), qvK (.ofNat 13)], zh96, []),
  [((60, [], [], [qvK (.ofNat 0)], zh96, []), 0, 0)])
noncomputable def c175_11_e : List Ct := []
noncomputable def c175_11_pts : List PE := []
set_option maxRecDepth 100000 in
theorem c175_11_k : enCtF c175_11 c175_11_e (pkP (c175_11_pts ++ []) []) (none) noH 3000 = true := by decide +kernel
set_option maxRecDepth 100000 in
theorem c175_11_v : ValidC PPk c175_11 := ct_ok fpk noH_ok (d := 0) (ext := []) (pts := c175_11_pts) (env := c175_11_e) rfl (fun _ h => (by cases h)) ext_nil (fun q h => (by cases h)) (enF c175_11_k) (fun _ h => (by cases h))

noncomputable def c183_0 : Ct := (183, 5, (60, (zt1 []), [], [qvR 0], zh96, []),
  [((60, [], [], [], zh96, []), 0, 0)])
noncomputable def c183_0_e : List Ct := [c175_0, c175_1, c175_10, c175_11, c175_2, c175_9, c184_0, c187_0, c187_1, c187_2]
noncomputable def c183_0_pts : List PE := []
set_option maxRecDepth 100000 in
theorem c183_0_k : enCtF c183_0 c183_0_e (pkP (c183_0_pts ++ []) []) (none) noH 9000 = true := by decide +kernel
set_option maxRecDepth 100000 in
theorem c183_0_v : ValidC PPk c183_0 := ct_ok fpk noH_ok (d := 4) (ext := []) (pts := c183_0_pts) (env := c183_0_e) rfl (List.forall_mem_cons.mpr ⟨⟨c175_0_v, Nat.le_of_ble_eq_true rfl⟩, List.forall_mem_cons.mpr ⟨⟨c175_1_v, Nat.le_of_ble_eq_true rfl⟩, List.forall_mem_cons.mpr ⟨⟨c175_10_v, Nat.le_of_ble_eq_true rfl⟩, List.forall_mem_cons.mpr ⟨⟨c175_11_v, Nat.le_of_ble_eq_true rfl⟩, List.forall_mem_cons.mpr ⟨⟨c175_2_v, Nat.le_of_ble_eq_true rfl⟩, List.forall_mem_cons.mpr ⟨⟨c175_9_v, Nat.le_of_ble_eq_true rfl⟩, List.forall_mem_cons.mpr ⟨⟨c184_0_v, Nat.le_of_ble_eq_true rfl⟩, List.forall_mem_cons.mpr ⟨⟨c187_0_v, Nat.le_of_ble_eq_true rfl⟩, List.forall_mem_cons.mpr ⟨⟨c187_1_v, Nat.le_of_ble_eq_true rfl⟩, List.forall_mem_cons.mpr ⟨⟨c187_2_v, Nat.le_of_ble_eq_true rfl⟩, fun _ h => (by cases h)⟩⟩⟩⟩⟩⟩⟩⟩⟩⟩) ext_nil (fun q h => (by cases h)) (enF c183_0_k) (fun _ h => (by cases h))

noncomputable def c190_0 : Ct := (190, 1, (0, [], [], [.inl (true, ((.ofNat 0), [])), .inl (true, ((.negSucc 99), [])), .inl (true, ((.ofNat 100), []))], [], []),
  [((0, [], [], [.inl (true, ((.ofNat 0), []))], [], []), 0, 0)])
noncomputable def c190_0_e : List Ct := []
noncomputable def c190_0_pts : List PE := []
set_option maxRecDepth 100000 in
theorem c190_0_k : enCtF c190_0 c190_0_e (pkP (c190_0_pts ++ []) []) (none) noH 3000 = true := by decide +kernel
set_option maxRecDepth 100000 in
theorem c190_0_v : ValidC PPk c190_0 := ct_ok fpk noH_ok (d := 0) (ext := []) (pts := c190_0_pts) (env := c190_0_e) rfl (fun _ h => (by cases h)) ext_nil (fun q h => (by cases h)) (enF c190_0_k) (fun _ h => (by cases h))

noncomputable def c190_1 : Ct := (190, 1, (0, [], [], [.inl (true, ((.negSucc 9), [])), .inl (true, ((.negSucc 999999), [])), .inl (true, ((.ofNat 1000000), []))], [], []),
  [((0, [], [], [.inl (true, ((.negSucc 9), []))], [], []), 0, 0)])
noncomputable def c190_1_e : List Ct := []
noncomputable def c190_1_pts : List PE := []
set_option maxRecDepth 100000 in
theorem c190_1_k : enCtF c190_1 c190_1_e (pkP (c190_1_pts ++ []) []) (none) noH 3000 = true := by decide +kernel
set_option maxRecDepth 100000 in
theorem c190_1_v : ValidC PPk c190_1 := ct_ok fpk noH_ok (d := 0) (ext := []) (pts := c190_1_pts) (env := c190_1_e) rfl (fun _ h => (by cases h)) ext_nil (fun q h => (by cases h)) (enF c190_1_k) (fun _ h => (by cases h))

noncomputable def zc113 : AC := qiC 0 [qgN 1 3 3, qgN 7 0 0, qgN 1 3 3, qgN 1 5 5, qgN 4 0 0, qgS 0, qgN 2 0 0, qgN 1 100 100, qgN 1 0 0, qgS 60, .inr (1, (.negSucc 0), (.negSucc 0)), qgN 9 0 0, qgS 2, qgS 3, qgS 4, qgS 5, qgS 6, qgS 7, qgS 8, qgS 9, qgS 10, qgS 11, qgS 12, qgS 13, qgN 1 1 1, qgN 27 0 0, qgS 14, qgS 15, qgS 16, qgS 17, qgS 18, qgS 19, qgS 20, qgS 21, qgS 22, qgS 23, qgS 24, qgS 25, qgN 1 1 1, qgN 27 0 0, qgS 26, qgS 27, qgS 28, qgS 29, qgS 30, qgS 31, qgS 32, qgS 33, qgS 34, qgS 35, qgS 36, qgS 37, qgN 1 1 1, qgN 27 0 0, qgS 38, qgS 39, qgS 40, qgS 41, qgS 42, qgS 43, qgS 44, qgS 45, qgS 46, qgS 47, qgS 48, qgS 49, qgN 1 1 1, qgN 621 0 0, .inr (1, (.negSucc 99), (.negSucc 99)), qgN 1 100 100, .inr (1, (.negSucc 99), (.negSucc 99)), qgN 1 100 100, .inr (1, (.negSucc 99), (.negSucc 99)), qgN 1 100 100, .inr (1, (.negSucc 99), (.negSucc 99)), qgN 1 100 100, qgN 118 0 0]
noncomputable def c189_0 : Ct := (189, 2, (60, (zt1 []), [], [qvR 0], zh96, []),
  [((61, [qtA 60], [], [], [zc27, zc113, qkC 100 50, qkC 103 51, qkC 100 52, qkC 100 53, qkC 100 54, qjC 1 1000000070, qjC 1 1000000008, qkC 100 55, qkC 100 56, qkC 100 57, qkC 100 58, qkC 100 59, qjC 1 1000000004], []), 0, 0)])
noncomputable def c189_0_e : List Ct := [c190_0, c190_1]
noncomputable def c189_0_pts : List PE := []
set_option maxRecDepth 100000 in
theorem c189_0_k : enCtF c189_0 c189_0_e (pkP (c189_0_pts ++ []) []) (none) noH 3000 = true := by decide +kernel
set_option maxRecDepth 100000 in
theorem c189_0_v : ValidC PPk c189_0 := ct_ok fpk noH_ok (d := 1) (ext := []) (pts := c189_0_pts) (env := c189_0_e) rfl (List.forall_mem_cons.mpr ⟨⟨c190_0_v, Nat.le_of_ble_eq_true rfl⟩, List.forall_mem_cons.mpr ⟨⟨c190_1_v, Nat.le_of_ble_eq_true rfl⟩, fun _ h => (by cases h)⟩⟩) ext_nil (fun q h => (by cases h)) (enF c189_0_k) (fun _ h => (by cases h))

noncomputable def c170_0 : Ct := (170, 6, (60, [qtN 0 0 1000, qtA 1, qtA 2, qtA 3, qtA 4, qtA 5, qtA 6, qtA 7, qtA 8, qtA 9, qtA 10, qtA 11, qtA 12, qtA 13, qtA 14, qtA 15, qtA 16, qtA 17, qtA 18, qtA 19, qtA 20, qtA 21, qtA 22, qtA 23, qtA 24, qtA 25, qtA 26, qtA 27, qtA 28, qtA 29, qtA 30, qtA 31, qtA 32, qtA 33, qtA 34, qtA 35, qtA 36, qtA 37, qtA 38, qtA 39, qtA 40, qtA 41, qtA 42, qtA 43, qtA 44, qtA 45, qtA 46, qtA 47, qtA 48, qtA 49], [], [qvR 0], zh96, []),
  [((61, [qtA 60], [], [], [zc27, qiC 0 [qgN 1 3 3, qgN 7 0 0, qgN 1 3 3, qgN 1 5 5, qgN 4 0 0, .inl ((.ofNat 1), [(0, (.ofNat 1))]), qgN 2 0 0, qgN 1 100 100, qgN 1 0 0, qgS 60, .inr (1, (.negSucc 0), (.negSucc 0)), qgN 9 0 0, qgS 2, qgS 3, qgS 4, qgS 5, qgS 6, qgS 7, qgS 8, qgS 9, qgS 10, qgS 11, qgS 12, qgS 13, qgN 1 1 1, qgN 27 0 0, qgS 14, qgS 15, qgS 16, qgS 17, qgS 18, qgS 19, qgS 20, qgS 21, qgS 22, qgS 23, qgS 24, qgS 25, qgN 1 1 1, qgN 27 0 0, qgS 26, qgS 27, qgS 28, qgS 29, qgS 30, qgS 31, qgS 32, qgS 33, qgS 34, qgS 35, qgS 36, qgS 37, qgN 1 1 1, qgN 27 0 0, qgS 38, qgS 39, qgS 40, qgS 41, qgS 42, qgS 43, qgS 44, qgS 45, qgS 46, qgS 47, qgS 48, qgS 49, qgN 1 1 1, qgN 621 0 0, .inr (1, (.negSucc 99), (.negSucc 99)), qgN 1 100 100, .inr (1, (.negSucc 99), (.negSucc 99)), qgN 1 100 100, .inr (1, (.negSucc 99), (.negSucc 99)), qgN 1 100 100, .inr (1, (.negSucc 99), (.negSucc 99)), qgN 1 100 100, qgN 118 0 0], qkC 100 50, qkC 103 51, qkC 100 52, qkC 100 53, qkC 100 54, qjC 1 1000000070, qjC 1 1000000008, qkC 100 55, qkC 100 56, qkC 100 57, qkC 100 58, qkC 100 59, qjC 1 1000000004], []), 0, 0)])
noncomputable def c170_0_e : List Ct := [c161_0, c171_0, c172_0, c175_0, c175_1, c175_2, c176_0, c180_0, c183_0, c189_0]
noncomputable def c170_0_pts : List PE := []
set_option maxRecDepth 100000 in
theorem c170_0_k : enCtF c170_0 c170_0_e (pkP (c170_0_pts ++ []) []) (none) noH 9000 = true := by decide +kernel
set_option maxRecDepth 100000 in
theorem c170_0_v : ValidC PPk c170_0 := ct_ok fpk noH_ok (d := 5) (ext := []) (pts := c170_0_pts) (env := c170_0_e) rfl (List.forall_mem_cons.mpr ⟨⟨c161_0_v, Nat.le_of_ble_eq_true rfl⟩, List.forall_mem_cons.mpr ⟨⟨c171_0_v, Nat.le_of_ble_eq_true rfl⟩, List.forall_mem_cons.mpr ⟨⟨c172_0_v, Nat.le_of_ble_eq_true rfl⟩, List.forall_mem_cons.mpr ⟨⟨c175_0_v, Nat.le_of_ble_eq_true rfl⟩, List.forall_mem_cons.mpr ⟨⟨c175_1_v, Nat.le_of_ble_eq_true rfl⟩, List.forall_mem_cons.mpr ⟨⟨c175_2_v, Nat.le_of_ble_eq_true rfl⟩, List.forall_mem_cons.mpr ⟨⟨c176_0_v, Nat.le_of_ble_eq_true rfl⟩, List.forall_mem_cons.mpr ⟨⟨c180_0_v, Nat.le_of_ble_eq_true rfl⟩, List.forall_mem_cons.mpr ⟨⟨c183_0_v, Nat.le_of_ble_eq_true rfl⟩, List.forall_mem_cons.mpr ⟨⟨c189_0_v, Nat.le_of_ble_eq_true rfl⟩, fun _ h => (by cases h)⟩⟩⟩⟩⟩⟩⟩⟩⟩⟩) ext_nil (fun q h => (by cases h)) (enF c170_0_k) (fun _ h => (by cases h))

noncomputable def zh114 : AH := [zc27, qiC 0 [qgN 1 3 3, qgN 7 0 0, qgN 1 3 3, qgN 1 5 5, qgN 4 0 0, qgS 1, qgN 2 0 0, qgN 1 100 100, qgN 1 0 0, qgS 2, .inr (1, (.negSucc 0), (.negSucc 0)), qgN 21 0 0, qgN 1 1 1, qgN 39 0 0, qgN 1 1 1, qgN 39 0 0, qgN 1 1 1, qgN 39 0 0, qgN 1 1 1, qgN 621 0 0, .inr (1, (.negSucc 99), (.negSucc 99)), qgN 1 100 100, .inr (1, (.negSucc 99), (.negSucc 99)), qgN 1 100 100, .inr (1, (.negSucc 99), (.negSucc 99)), qgN 1 100 100, .inr (1, (.negSucc 99), (.negSucc 99)), qgN 1 100 100, qgN 118 0 0], qiC 0 [qgN 1820 0 0], qiC 3 [qgN 2 0 0], qiC 0 [qgN 70 0 0], qiC 0 [qgN 70 0 0], qiC 0 [qgN 70 0 0], qjC 1 1000000070, qjC 1 1000000008, qiC 0 [qgN 910 0 0], qiC 0 [qgN 910 0 0], qiC 0 [qgN 20 0 0], qiC 0 [qgN 20 0 0], qiC 0 [qgN 910 0 0], qjC 1 1000000004]
noncomputable def c169_0 : Ct := (169, 7, (1, [qtA 0], [], [qvR 0, qvS 0], zh29, []),
  [((1, [(0, (.negSucc 2147483647), (.ofNat 0))], [], [qvK (.negSucc 1999)], zh29, []), 0, 0),
   ((1, [qtN 0 101 2147483647], [], [qvK (.negSucc 1999)], zh29, []), 0, 0),
   ((3, [qtN 0 1 100, qtN 1 1 100, qtA 2], [((.ofNat 0), [(0, (.ofNat 1)), (1, (.negSucc 0))])], [qvK (.ofNat 0)], zh114, []), 0, 0)])
noncomputable def c169_0_e : List Ct := [c145_23, c170_0]
noncomputable def c169_0_p0 : PE := (16, [0, 1, 2], (3, [qtN 0 1 100, qtN 1 0 100, qtA 2], [], [qvR 0, qvS 0, qvS 1], zh114, []), symsL 1 0, some ((.ofNat 201), [(1, (.negSucc 0))]), 0, 0)
noncomputable def c169_0_pts : List PE := [c169_0_p0]
set_option maxRecDepth 100000 in
theorem c169_0_k : enCtF c169_0 c169_0_e (pkP (c169_0_pts ++ []) [0]) (none) (noF, noM, 65536, 0, 1) 3000 = true := by decide +kernel
set_option maxRecDepth 100000 in
theorem c169_0_k0 : ptCtF c169_0 c169_0_e (pkP (c169_0_pts ++ []) [0]) (noF, noM, 65536, 0, 1) 3000 c169_0_p0 = true := by decide +kernel
set_option maxRecDepth 100000 in
theorem c169_0_v : ValidC PPk c169_0 := ct_ok fpk ⟨noF_ok, noM_ok⟩ (d := 6) (ext := []) (pts := c169_0_pts) (env := c169_0_e) rfl (List.forall_mem_cons.mpr ⟨⟨c145_23_v, Nat.le_of_ble_eq_true rfl⟩, List.forall_mem_cons.mpr ⟨⟨c170_0_v, Nat.le_of_ble_eq_true rfl⟩, fun _ h => (by cases h)⟩⟩) ext_nil (fun q h => (by cases h)) (enF c169_0_k) (List.forall_mem_cons.mpr ⟨⟨_, ptF c169_0_k0⟩, fun _ h => (by cases h)⟩)

noncomputable def c67_0 : Ct := (67, 1, (0, [], [], [qvK (.ofNat 7)], [], []),
  [((0, [], [], [qvK (.ofNat 3)], [], []), 0, 0)])
noncomputable def c67_0_e : List Ct := []
noncomputable def c67_0_pts : List PE := []
set_option maxRecDepth 100000 in
theorem c67_0_k : enCtF c67_0 c67_0_e (pkP (c67_0_pts ++ []) []) (none) noH 3000 = true := by decide +kernel
set_option maxRecDepth 100000 in
theorem c67_0_v : ValidC PPk c67_0 := ct_ok fpk noH_ok (d := 0) (ext := []) (pts := c67_0_pts) (env := c67_0_e) rfl (fun _ h => (by cases h)) ext_nil (fun q h => (by cases h)) (enF c67_0_k) (fun _ h => (by cases h))

noncomputable def c88_0 : Ct := (88, 2, (1, [qtA 0], [], [qvR 0, qvS 0], zh43, []),
  [((1, [(0, (.negSucc 2147483647), (.negSucc 0))], [], [qvK (.negSucc 1999999)], zh43, []), 0, 0),
   ((1, [qtN 0 8 2147483647], [], [qvK (.negSucc 1999999)], zh43, []), 0, 0),
   ((1, [qtN 0 0 0], [], [qvK (.ofNat 0)], zh43, []), 0, 0),
   ((1, [qtN 0 1 1], [], [qvK (.ofNat 0)], zh43, []), 0, 0),
   ((1, [qtN 0 2 2], [], [qvK (.ofNat 0)], zh43, []), 0, 0),
   ((1, [qtN 0 3 3], [], [qvK (.ofNat 0)], zh43, []), 0, 0),
   ((1, [qtN 0 4 4], [], [qvK (.ofNat 0)], zh43, []), 0, 0),
   ((1, [qtN 0 5 5], [], [qvK (.ofNat 3)], zh43, []), 0, 0),
   ((1, [qtN 0 6 6], [], [qvK (.ofNat 0)], zh43, []), 0, 0),
   ((1, [qtN 0 7 7], [], [qvK (.ofNat 0)], zh43, []), 0, 0)])
noncomputable def c88_0_e : List Ct := [c67_0]
noncomputable def c88_0_pts : List PE := []
set_option maxRecDepth 100000 in
theorem c88_0_k : enCtF c88_0 c88_0_e (pkP (c88_0_pts ++ []) []) (none) noH 3000 = true := by decide +kernel
set_option maxRecDepth 100000 in
theorem c88_0_v : ValidC PPk c88_0 := ct_ok fpk noH_ok (d := 1) (ext := []) (pts := c88_0_pts) (env := c88_0_e) rfl (List.forall_mem_cons.mpr ⟨⟨c67_0_v, Nat.le_of_ble_eq_true rfl⟩, fun _ h => (by cases h)⟩) ext_nil (fun q h => (by cases h)) (enF c88_0_k) (fun _ h => (by cases h))

noncomputable def c188_0 : Ct := (188, 2, (60, (zt1 []), [], [qvR 0], zh96, []),
  [((60, [], [], [qvK (.ofNat 3)], zh96, []), 0, 0)])
noncomputable def c188_0_e : List Ct := [c175_0, c175_1, c175_2]
noncomputable def c188_0_pts : List PE := []
set_option maxRecDepth 100000 in
theorem c188_0_k : enCtF c188_0 c188_0_e (pkP (c188_0_pts ++ []) []) (none) noH 9000 = true := by decide +kernel
set_option maxRecDepth 100000 in
theorem c188_0_v : ValidC PPk c188_0 := ct_ok fpk noH_ok (d := 1) (ext := []) (pts := c188_0_pts) (env := c188_0_e) rfl (List.forall_mem_cons.mpr ⟨⟨c175_0_v, Nat.le_of_ble_eq_true rfl⟩, List.forall_mem_cons.mpr ⟨⟨c175_1_v, Nat.le_of_ble_eq_true rfl⟩, List.forall_mem_cons.mpr ⟨⟨c175_2_v, Nat.le_of_ble_eq_true rfl⟩, fun _ h => (by cases h)⟩⟩⟩) ext_nil (fun q h => (by cases h)) (enF c188_0_k) (fun _ h => (by cases h))

noncomputable def c197_0 : Ct := (197, 3, (1, [qtN 0 0 7], [], [qvR 0, qvS 0], zh29, []),
  [((1, [qtN 0 6 7], [], [qvK (.ofNat 0)], zh29, []), 0, 0),
   ((1, [qtN 0 5 5], [], [qvK (.ofNat 3)], zh97, []), 0, 0),
   ((1, [qtN 0 0 4], [], [qvK (.ofNat 0)], zh29, []), 0, 0)])
noncomputable def c197_0_e : List Ct := [c188_0]
noncomputable def c197_0_pts : List PE := []
set_option maxRecDepth 100000 in
theorem c197_0_k : enCtF c197_0 c197_0_e (pkP (c197_0_pts ++ []) []) (none) noH 3000 = true := by decide +kernel
set_option maxRecDepth 100000 in
theorem c197_0_v : ValidC PPk c197_0 := ct_ok fpk noH_ok (d := 2) (ext := []) (pts := c197_0_pts) (env := c197_0_e) rfl (List.forall_mem_cons.mpr ⟨⟨c188_0_v, Nat.le_of_ble_eq_true rfl⟩, fun _ h => (by cases h)⟩) ext_nil (fun q h => (by cases h)) (enF c197_0_k) (fun _ h => (by cases h))

noncomputable def c196_0 : Ct := (196, 4, (1, [qtA 0], [], [qvR 0, qvS 0], zh29, []),
  [((1, [(0, (.negSucc 2147483647), (.negSucc 0))], [], [qvK (.negSucc 1999999)], zh29, []), 0, 0),
   ((1, [qtN 0 8 2147483647], [], [qvK (.negSucc 1999999)], zh29, []), 0, 0),
   ((1, [qtN 0 6 7], [], [qvK (.ofNat 0)], zh29, []), 0, 0),
   ((1, [qtN 0 5 5], [], [qvK (.ofNat 3)], zh97, []), 0, 0),
   ((1, [qtN 0 0 4], [], [qvK (.ofNat 0)], zh29, []), 0, 0)])
noncomputable def c196_0_e : List Ct := [c145_5, c197_0]
noncomputable def c196_0_pts : List PE := []
set_option maxRecDepth 100000 in
theorem c196_0_k : enCtF c196_0 c196_0_e (pkP (c196_0_pts ++ []) []) (none) noH 3000 = true := by decide +kernel
set_option maxRecDepth 100000 in
theorem c196_0_v : ValidC PPk c196_0 := ct_ok fpk noH_ok (d := 3) (ext := []) (pts := c196_0_pts) (env := c196_0_e) rfl (List.forall_mem_cons.mpr ⟨⟨c145_5_v, Nat.le_of_ble_eq_true rfl⟩, List.forall_mem_cons.mpr ⟨⟨c197_0_v, Nat.le_of_ble_eq_true rfl⟩, fun _ h => (by cases h)⟩⟩) ext_nil (fun q h => (by cases h)) (enF c196_0_k) (fun _ h => (by cases h))

noncomputable def c12_24 : Ct := (12, 1, (1, [qtA 0], [], [qvS 0, qvK (.ofNat 0), qvK (.ofNat 2)], [], []),
  [((1, [(0, (.negSucc 2147483647), (.negSucc 0))], [], [qvK (.ofNat 0)], [], []), 0, 0),
   ((1, [qtN 0 3 2147483647], [], [qvK (.ofNat 0)], [], []), 0, 0),
   ((1, [qtN 0 0 2], [], [qvK (.ofNat 1)], [], []), 0, 0)])
noncomputable def c12_24_e : List Ct := []
noncomputable def c12_24_pts : List PE := []
set_option maxRecDepth 100000 in
theorem c12_24_k : enCtF c12_24 c12_24_e (pkP (c12_24_pts ++ []) []) (none) noH 3000 = true := by decide +kernel
set_option maxRecDepth 100000 in
theorem c12_24_v : ValidC PPk c12_24 := ct_ok fpk noH_ok (d := 0) (ext := []) (pts := c12_24_pts) (env := c12_24_e) rfl (fun _ h => (by cases h)) ext_nil (fun q h => (by cases h)) (enF c12_24_k) (fun _ h => (by cases h))

noncomputable def zh115 : AH := [zc23, zc15, qrC 4 [some 3, some 8], zc16, qkC 100 1, qkC 100 2, qkC 100 3, qkC 100 4, zc17, qkC 100 5, qkC 100 6, qkC 100 7, qkC 100 8, zc18, qkC 100 9, qkC 100 10, qkC 100 11, qkC 100 12, qkC 100 13, qkC 100 14, qkC 100 15, zc19, qkC 100 16, qkC 100 17, qkC 100 18, qkC 100 19, qkC 100 20, qkC 100 21, zc20, qkC 102 22, qkC 100 23, qjC 1 1000000060, zc21, qkC 100 24, qkC 100 25, qkC 100 26, qkC 100 27, qkC 100 28, qkC 100 29, qkC 100 30, qkC 100 31, qoC 7 [qvR 42, qvK (.ofNat 7), qvR 51, qvR 55, qvR 56, qvK (.ofNat 0), qvK (.ofNat 0), qvK (.ofNat 0), qvS 32, qvK (.ofNat 0), qvK (.ofNat 0), qvS 33, qvK (.ofNat 0), qvK (.ofNat 0), qvK (.ofNat 0), qvK (.ofNat 0), qvK (.negSucc 0)], zc38, zc39, qkC 100 34, zc40, qkC 100 35, zc41, qkC 100 36, zc24, qkC 100 37, zc42, qkC 100 38, qkC 100 39, qkC 100 40, qkC 100 41, qkC 100 42, zc26, qjC 1 1000000006, qjC 1 1000000004, qrC 6 [none, none], qrC 7 [none, none]]
noncomputable def c90_0 : Ct := (90, 2, (43, [qtA 0, qtA 32, qtN 33 0 1001], [], [qvR 0, qvS 0], zh115, []),
  [((43, [(0, (.negSucc 2147483647), (.negSucc 0))], [], [qvK (.ofNat 0)], zh115, []), 0, 0),
   ((43, [qtN 0 3 2147483647], [], [qvK (.ofNat 0)], zh115, []), 0, 0),
   ((43, [qtN 0 0 2], [], [qvK (.ofNat 1)], zh115, []), 0, 0)])
noncomputable def c90_0_e : List Ct := [c12_24]
noncomputable def c90_0_pts : List PE := []
set_option maxRecDepth 100000 in
theorem c90_0_k : enCtF c90_0 c90_0_e (pkP (c90_0_pts ++ []) []) (none) noH 3000 = true := by decide +kernel
set_option maxRecDepth 100000 in
theorem c90_0_v : ValidC PPk c90_0 := ct_ok fpk noH_ok (d := 1) (ext := []) (pts := c90_0_pts) (env := c90_0_e) rfl (List.forall_mem_cons.mpr ⟨⟨c12_24_v, Nat.le_of_ble_eq_true rfl⟩, fun _ h => (by cases h)⟩) ext_nil (fun q h => (by cases h)) (enF c90_0_k) (fun _ h => (by cases h))

noncomputable def c89_0 : Ct := (89, 3, (2, [qtA 0, qtA 1], [], [qvR 0, qvS 0, qvS 1], zh43, []),
  [((2, [(0, (.negSucc 2147483647), (.negSucc 0))], [], [qvK (.ofNat 0)], zh43, []), 0, 0),
   ((2, [qtN 0 3 2147483647], [], [qvK (.ofNat 0)], zh43, []), 0, 0),
   ((2, [qtN 0 0 2, (1, (.negSucc 2147483647), (.negSucc 0))], [], [qvK (.ofNat 0)], zh43, []), 0, 0),
   ((2, [qtN 0 0 2, qtN 1 12 2147483647], [], [qvK (.ofNat 0)], zh43, []), 0, 0),
   ((2, [qtN 0 0 0, qtN 1 0 11], [], [qvK (.ofNat 0)], zh43, []), 0, 0),
   ((2, [qtN 0 1 1, qtN 1 0 11], [], [qvK (.ofNat 0)], zh43, []), 0, 0),
   ((2, [qtN 0 2 2, qtN 1 0 11], [], [qvK (.ofNat 0)], zh43, []), 0, 0)])
noncomputable def c89_0_e : List Ct := [c12_2, c90_0]
noncomputable def c89_0_pts : List PE := []
set_option maxRecDepth 100000 in
theorem c89_0_k : enCtF c89_0 c89_0_e (pkP (c89_0_pts ++ []) []) (none) noH 3000 = true := by decide +kernel
set_option maxRecDepth 100000 in
theorem c89_0_v : ValidC PPk c89_0 := ct_ok fpk noH_ok (d := 2) (ext := []) (pts := c89_0_pts) (env := c89_0_e) rfl (List.forall_mem_cons.mpr ⟨⟨c12_2_v, Nat.le_of_ble_eq_true rfl⟩, List.forall_mem_cons.mpr ⟨⟨c90_0_v, Nat.le_of_ble_eq_true rfl⟩, fun _ h => (by cases h)⟩⟩) ext_nil (fun q h => (by cases h)) (enF c89_0_k) (fun _ h => (by cases h))

noncomputable def c145_24 : Ct := (145, 1, (1, [qtA 0], [], [qvS 0, qvK (.ofNat 0), qvK (.ofNat 2)], [], []),
  [((1, [(0, (.negSucc 2147483647), (.negSucc 0))], [], [qvK (.ofNat 0)], [], []), 0, 0),
   ((1, [qtN 0 3 2147483647], [], [qvK (.ofNat 0)], [], []), 0, 0),
   ((1, [qtN 0 0 2], [], [qvK (.ofNat 1)], [], []), 0, 0)])
noncomputable def c145_24_e : List Ct := []
noncomputable def c145_24_pts : List PE := []
set_option maxRecDepth 100000 in
theorem c145_24_k : enCtF c145_24 c145_24_e (pkP (c145_24_pts ++ []) []) (none) noH 3000 = true := by decide +kernel
set_option maxRecDepth 100000 in
theorem c145_24_v : ValidC PPk c145_24 := ct_ok fpk noH_ok (d := 0) (ext := []) (pts := c145_24_pts) (env := c145_24_e) rfl (fun _ h => (by cases h)) ext_nil (fun q h => (by cases h)) (enF c145_24_k) (fun _ h => (by cases h))

noncomputable def c173_0 : Ct := (173, 2, (1, [qtA 0], [], [qvR 0, qvS 0], zh29, []),
  [((1, [(0, (.negSucc 2147483647), (.negSucc 0))], [], [qvK (.ofNat 0)], zh29, []), 0, 0),
   ((1, [qtN 0 3 2147483647], [], [qvK (.ofNat 0)], zh29, []), 0, 0),
   ((1, [qtN 0 0 2], [], [qvK (.ofNat 1)], zh29, []), 0, 0)])
noncomputable def c173_0_e : List Ct := [c145_24]
noncomputable def c173_0_pts : List PE := []
set_option maxRecDepth 100000 in
theorem c173_0_k : enCtF c173_0 c173_0_e (pkP (c173_0_pts ++ []) []) (none) noH 3000 = true := by decide +kernel
set_option maxRecDepth 100000 in
theorem c173_0_v : ValidC PPk c173_0 := ct_ok fpk noH_ok (d := 1) (ext := []) (pts := c173_0_pts) (env := c173_0_e) rfl (List.forall_mem_cons.mpr ⟨⟨c145_24_v, Nat.le_of_ble_eq_true rfl⟩, fun _ h => (by cases h)⟩) ext_nil (fun q h => (by cases h)) (enF c173_0_k) (fun _ h => (by cases h))

noncomputable def c175_12 : Ct := (175, 1, (2, [qtN 0 0 2, qtN 1 0 11], [], [qvR 0, qvS 0, qvS 1], zh29, []),
  [((2, [], [], [qvK (.ofNat 0)], zh29, []), 0, 0)])
noncomputable def c175_12_e : List Ct := []
noncomputable def c175_12_pts : List PE := []
set_option maxRecDepth 100000 in
theorem c175_12_k : enCtF c175_12 c175_12_e (pkP (c175_12_pts ++ []) []) (some (0, 0, 3)) noH 3000 = true := by decide +kernel
set_option maxRecDepth 100000 in
theorem c175_12_v : ValidC PPk c175_12 := ct_ok fpk noH_ok (d := 0) (ext := []) (pts := c175_12_pts) (env := c175_12_e) rfl (fun _ h => (by cases h)) ext_nil (fun q h => (by cases h; exact Nat.le_of_ble_eq_true rfl)) (enF c175_12_k) (fun _ h => (by cases h))

noncomputable def c198_0 : Ct := (198, 3, (2, [qtA 0, qtA 1], [], [qvR 0, qvS 0, qvS 1], zh29, []),
  [((2, [(0, (.negSucc 2147483647), (.negSucc 0))], [], [qvK (.ofNat 0)], zh29, []), 0, 0),
   ((2, [qtN 0 3 2147483647], [], [qvK (.ofNat 0)], zh29, []), 0, 0),
   ((2, [qtN 0 0 2, (1, (.negSucc 2147483647), (.negSucc 0))], [], [qvK (.ofNat 0)], zh29, []), 0, 0),
   ((2, [qtN 0 0 2, qtN 1 12 2147483647], [], [qvK (.ofNat 0)], zh29, []), 0, 0),
   ((2, [qtN 0 0 2, qtN 1 0 11], [], [qvK (.ofNat 0)], zh29, []), 0, 0)])
noncomputable def c198_0_e : List Ct := [c145_2, c173_0, c175_12]
noncomputable def c198_0_pts : List PE := []
set_option maxRecDepth 100000 in
theorem c198_0_k : enCtF c198_0 c198_0_e (pkP (c198_0_pts ++ []) []) (none) noH 3000 = true := by decide +kernel
set_option maxRecDepth 100000 in
theorem c198_0_v : ValidC PPk c198_0 := ct_ok fpk noH_ok (d := 2) (ext := []) (pts := c198_0_pts) (env := c198_0_e) rfl (List.forall_mem_cons.mpr ⟨⟨c145_2_v, Nat.le_of_ble_eq_true rfl⟩, List.forall_mem_cons.mpr ⟨⟨c173_0_v, Nat.le_of_ble_eq_true rfl⟩, List.forall_mem_cons.mpr ⟨⟨c175_12_v, Nat.le_of_ble_eq_true rfl⟩, fun _ h => (by cases h)⟩⟩⟩) ext_nil (fun q h => (by cases h)) (enF c198_0_k) (fun _ h => (by cases h))

noncomputable def c91_0 : Ct := (91, 3, (2, [qtA 0, qtA 1], [], [qvR 0, qvS 0, qvS 1], zh43, []),
  [((2, [(0, (.negSucc 2147483647), (.negSucc 0))], [], [qvK (.negSucc 1)], zh43, []), 0, 0),
   ((2, [qtN 0 3 2147483647], [], [qvK (.negSucc 1)], zh43, []), 0, 0),
   ((2, [qtN 0 0 0, (1, (.negSucc 2147483647), (.negSucc 0))], [], [qvK (.negSucc 1)], zh43, []), 0, 0),
   ((2, [qtN 0 0 0, qtN 1 5 2147483647], [], [qvK (.negSucc 1)], zh43, []), 0, 0),
   ((2, [qtN 0 0 0, qtN 1 0 0], [], [qvK (.ofNat 1)], zh43, []), 0, 0),
   ((2, [qtN 0 0 0, qtN 1 1 1], [], [qvK (.ofNat 0)], zh43, []), 0, 0),
   ((2, [qtN 0 0 0, qtN 1 2 2], [], [qvK (.ofNat 0)], zh43, []), 0, 0),
   ((2, [qtN 0 0 0, qtN 1 3 3], [], [qvK (.ofNat 0)], zh43, []), 0, 0),
   ((2, [qtN 0 0 0, qtN 1 4 4], [], [qvK (.ofNat 0)], zh43, []), 0, 0),
   ((2, [qtN 0 1 1, (1, (.negSucc 2147483647), (.negSucc 0))], [], [qvK (.negSucc 1)], zh43, []), 0, 0),
   ((2, [qtN 0 1 1, qtN 1 5 2147483647], [], [qvK (.negSucc 1)], zh43, []), 0, 0),
   ((2, [qtN 0 1 1, qtN 1 0 0], [], [qvK (.ofNat 1)], zh43, []), 0, 0),
   ((2, [qtN 0 1 1, qtN 1 1 1], [], [qvK (.ofNat 0)], zh43, []), 0, 0),
   ((2, [qtN 0 1 1, qtN 1 2 2], [], [qvK (.ofNat 0)], zh43, []), 0, 0),
   ((2, [qtN 0 1 1, qtN 1 3 3], [], [qvK (.ofNat 0)], zh43, []), 0, 0),
   ((2, [qtN 0 1 1, qtN 1 4 4], [], [qvK (.ofNat 0)], zh43, []), 0, 0),
   ((2, [qtN 0 2 2, (1, (.negSucc 2147483647), (.negSucc 0))], [], [qvK (.negSucc 1)], zh43, []), 0, 0),
   ((2, [qtN 0 2 2, qtN 1 5 2147483647], [], [qvK (.negSucc 1)], zh43, []), 0, 0),
   ((2, [qtN 0 2 2, qtN 1 0 0], [], [qvK (.ofNat 1)], zh43, []), 0, 0),
   ((2, [qtN 0 2 2, qtN 1 1 1], [], [qvK (.ofNat 0)], zh43, []), 0, 0),
   ((2, [qtN 0 2 2, qtN 1 2 2], [], [qvK (.ofNat 0)], zh43, []), 0, 0),
   ((2, [qtN 0 2 2, qtN 1 3 3], [], [qvK (.ofNat 0)], zh43, []), 0, 0),
   ((2, [qtN 0 2 2, qtN 1 4 4], [], [qvK (.ofNat 0)], zh43, []), 0, 0)])
noncomputable def c91_0_e : List Ct := [c60_0, c60_1, c60_2, c90_0]
noncomputable def c91_0_pts : List PE := []
set_option maxRecDepth 100000 in
theorem c91_0_k : enCtF c91_0 c91_0_e (pkP (c91_0_pts ++ []) []) (none) noH 3000 = true := by decide +kernel
set_option maxRecDepth 100000 in
theorem c91_0_v : ValidC PPk c91_0 := ct_ok fpk noH_ok (d := 2) (ext := []) (pts := c91_0_pts) (env := c91_0_e) rfl (List.forall_mem_cons.mpr ⟨⟨c60_0_v, Nat.le_of_ble_eq_true rfl⟩, List.forall_mem_cons.mpr ⟨⟨c60_1_v, Nat.le_of_ble_eq_true rfl⟩, List.forall_mem_cons.mpr ⟨⟨c60_2_v, Nat.le_of_ble_eq_true rfl⟩, List.forall_mem_cons.mpr ⟨⟨c90_0_v, Nat.le_of_ble_eq_true rfl⟩, fun _ h => (by cases h)⟩⟩⟩⟩) ext_nil (fun q h => (by cases h)) (enF c91_0_k) (fun _ h => (by cases h))

noncomputable def c145_25 : Ct := (145, 1, (1, [qtA 0], [], [qvS 0, qvK (.ofNat 0), qvK (.ofNat 4)], [], []),
  [((1, [(0, (.negSucc 2147483647), (.negSucc 0))], [], [qvK (.ofNat 0)], [], []), 0, 0),
   ((1, [qtN 0 5 2147483647], [], [qvK (.ofNat 0)], [], []), 0, 0),
   ((1, [qtN 0 0 4], [], [qvK (.ofNat 1)], [], []), 0, 0)])
noncomputable def c145_25_e : List Ct := []
noncomputable def c145_25_pts : List PE := []
set_option maxRecDepth 100000 in
theorem c145_25_k : enCtF c145_25 c145_25_e (pkP (c145_25_pts ++ []) []) (none) noH 3000 = true := by decide +kernel
set_option maxRecDepth 100000 in
theorem c145_25_v : ValidC PPk c145_25 := ct_ok fpk noH_ok (d := 0) (ext := []) (pts := c145_25_pts) (env := c145_25_e) rfl (fun _ h => (by cases h)) ext_nil (fun q h => (by cases h)) (enF c145_25_k) (fun _ h => (by cases h))

noncomputable def c175_13 : Ct := (175, 1, (1, [qtN 0 0 2], [], [qvR 0, qvS 0, qvK (.ofNat 12)], zh29, []),
  [((1, [], [], [qvK (.ofNat 1)], zh29, []), 0, 0)])
noncomputable def c175_13_e : List Ct := []
noncomputable def c175_13_pts : List PE := []
set_option maxRecDepth 100000 in
theorem c175_13_k : enCtF c175_13 c175_13_e (pkP (c175_13_pts ++ []) []) (some (0, 0, 3)) noH 3000 = true := by decide +kernel
set_option maxRecDepth 100000 in
theorem c175_13_v : ValidC PPk c175_13 := ct_ok fpk noH_ok (d := 0) (ext := []) (pts := c175_13_pts) (env := c175_13_e) rfl (fun _ h => (by cases h)) ext_nil (fun q h => (by cases h; exact Nat.le_of_ble_eq_true rfl)) (enF c175_13_k) (fun _ h => (by cases h))

noncomputable def c175_14 : Ct := (175, 1, (1, [qtN 0 0 2], [], [qvR 0, qvS 0, qvK (.ofNat 13)], zh29, []),
  [((1, [], [], [qvK (.ofNat 0)], zh29, []), 0, 0)])
noncomputable def c175_14_e : List Ct := []
noncomputable def c175_14_pts : List PE := []
set_option maxRecDepth 100000 in
theorem c175_14_k : enCtF c175_14 c175_14_e (pkP (c175_14_pts ++ []) []) (some (0, 0, 3)) noH 3000 = true := by decide +kernel
set_option maxRecDepth 100000 in
theorem c175_14_v : ValidC PPk c175_14 := ct_ok fpk noH_ok (d := 0) (ext := []) (pts := c175_14_pts) (env := c175_14_e) rfl (fun _ h => (by cases h)) ext_nil (fun q h => (by cases h; exact Nat.le_of_ble_eq_true rfl)) (enF c175_14_k) (fun _ h => (by cases h))

noncomputable def c175_15 : Ct := (175, 1, (1, [qtN 0 0 2], [], [qvR 0, qvS 0, qvK (.ofNat 14)], zh29, []),
  [((1, [], [], [qvK (.ofNat 0)], zh29, []), 0, 0)])
noncomputable def c175_15_e : List Ct := []
noncomputable def c175_15_pts : List PE := []
set_option maxRecDepth 100000 in
theorem c175_15_k : enCtF c175_15 c175_15_e (pkP (c175_15_pts ++ []) []) (some (0, 0, 3)) noH 3000 = true := by decide +kernel
set_option maxRecDepth 100000 in
theorem c175_15_v : ValidC PPk c175_15 := ct_ok fpk noH_ok (d := 0) (ext := []) (pts := c175_15_pts) (env := c175_15_e) rfl (fun _ h => (by cases h)) ext_nil (fun q h => (by cases h; exact Nat.le_of_ble_eq_true rfl)) (enF c175_15_k) (fun _ h => (by cases h))

noncomputable def c175_16 : Ct := (175, 1, (1, [qtN 0 0 2], [], [qvR 0, qvS 0, qvK (.ofNat 15)], zh29, []),
  [((1, [], [], [qvK (.ofNat 0)], zh29, []), 0, 0)])
noncomputable def c175_16_e : List Ct := []
noncomputable def c175_16_pts : List PE := []
set_option maxRecDepth 100000 in
theorem c175_16_k : enCtF c175_16 c175_16_e (pkP (c175_16_pts ++ []) []) (some (0, 0, 3)) noH 3000 = true := by decide +kernel
set_option maxRecDepth 100000 in
theorem c175_16_v : ValidC PPk c175_16 := ct_ok fpk noH_ok (d := 0) (ext := []) (pts := c175_16_pts) (env := c175_16_e) rfl (fun _ h => (by cases h)) ext_nil (fun q h => (by cases h; exact Nat.le_of_ble_eq_true rfl)) (enF c175_16_k) (fun _ h => (by cases h))

noncomputable def c175_17 : Ct := (175, 1, (1, [qtN 0 0 2], [], [qvR 0, qvS 0, qvK (.ofNat 16)], zh29, []),
  [((1, [], [], [qvK (.ofNat 0)], zh29, []), 0, 0)])
noncomputable def c175_17_e : List Ct := []
noncomputable def c175_17_pts : List PE := []
set_option maxRecDepth 100000 in
theorem c175_17_k : enCtF c175_17 c175_17_e (pkP (c175_17_pts ++ []) []) (some (0, 0, 3)) noH 3000 = true := by decide +kernel
set_option maxRecDepth 100000 in
theorem c175_17_v : ValidC PPk c175_17 := ct_ok fpk noH_ok (d := 0) (ext := []) (pts := c175_17_pts) (env := c175_17_e) rfl (fun _ h => (by cases h)) ext_nil (fun q h => (by cases h; exact Nat.le_of_ble_eq_true rfl)) (enF c175_17_k) (fun _ h => (by cases h))

noncomputable def c199_0 : Ct := (199, 3, (2, [qtA 0, qtA 1], [], [qvR 0, qvS 0, qvS 1], zh29, []),
  [((2, [(0, (.negSucc 2147483647), (.negSucc 0))], [], [qvK (.negSucc 1)], zh29, []), 0, 0),
   ((2, [qtN 0 3 2147483647], [], [qvK (.negSucc 1)], zh29, []), 0, 0),
   ((2, [qtN 0 0 2, (1, (.negSucc 2147483647), (.negSucc 0))], [], [qvK (.negSucc 1)], zh29, []), 0, 0),
   ((2, [qtN 0 0 2, qtN 1 5 2147483647], [], [qvK (.negSucc 1)], zh29, []), 0, 0),
   ((2, [qtN 0 0 2, qtN 1 0 0], [], [qvK (.ofNat 1)], zh29, []), 0, 0),
   ((2, [qtN 0 0 2, qtN 1 1 1], [], [qvK (.ofNat 0)], zh29, []), 0, 0),
   ((2, [qtN 0 0 2, qtN 1 2 2], [], [qvK (.ofNat 0)], zh29, []), 0, 0),
   ((2, [qtN 0 0 2, qtN 1 3 3], [], [qvK (.ofNat 0)], zh29, []), 0, 0),
   ((2, [qtN 0 0 2, qtN 1 4 4], [], [qvK (.ofNat 0)], zh29, []), 0, 0)])
noncomputable def c199_0_e : List Ct := [c145_25, c173_0, c175_13, c175_14, c175_15, c175_16, c175_17]
noncomputable def c199_0_pts : List PE := []
set_option maxRecDepth 100000 in
theorem c199_0_k : enCtF c199_0 c199_0_e (pkP (c199_0_pts ++ []) []) (none) ((hSplit 17 2 ), noM, 0, 131072, 2) 3000 = true := by decide +kernel
set_option maxRecDepth 100000 in
theorem c199_0_v : ValidC PPk c199_0 := ct_ok fpk ⟨(hSplit_ok 17 2 ), noM_ok⟩ (d := 2) (ext := []) (pts := c199_0_pts) (env := c199_0_e) rfl (List.forall_mem_cons.mpr ⟨⟨c145_25_v, Nat.le_of_ble_eq_true rfl⟩, List.forall_mem_cons.mpr ⟨⟨c173_0_v, Nat.le_of_ble_eq_true rfl⟩, List.forall_mem_cons.mpr ⟨⟨c175_13_v, Nat.le_of_ble_eq_true rfl⟩, List.forall_mem_cons.mpr ⟨⟨c175_14_v, Nat.le_of_ble_eq_true rfl⟩, List.forall_mem_cons.mpr ⟨⟨c175_15_v, Nat.le_of_ble_eq_true rfl⟩, List.forall_mem_cons.mpr ⟨⟨c175_16_v, Nat.le_of_ble_eq_true rfl⟩, List.forall_mem_cons.mpr ⟨⟨c175_17_v, Nat.le_of_ble_eq_true rfl⟩, fun _ h => (by cases h)⟩⟩⟩⟩⟩⟩⟩) ext_nil (fun q h => (by cases h)) (enF c199_0_k) (fun _ h => (by cases h))

noncomputable def c12_25 : Ct := (12, 1, (1, [qtA 0], [], [qvS 0, qvK (.ofNat 0), qvK (.ofNat 4)], [], []),
  [((1, [(0, (.negSucc 2147483647), (.negSucc 0))], [], [qvK (.ofNat 0)], [], []), 0, 0),
   ((1, [qtN 0 5 2147483647], [], [qvK (.ofNat 0)], [], []), 0, 0),
   ((1, [qtN 0 0 4], [], [qvK (.ofNat 1)], [], []), 0, 0)])
noncomputable def c12_25_e : List Ct := []
noncomputable def c12_25_pts : List PE := []
set_option maxRecDepth 100000 in
theorem c12_25_k : enCtF c12_25 c12_25_e (pkP (c12_25_pts ++ []) []) (none) noH 3000 = true := by decide +kernel
set_option maxRecDepth 100000 in
theorem c12_25_v : ValidC PPk c12_25 := ct_ok fpk noH_ok (d := 0) (ext := []) (pts := c12_25_pts) (env := c12_25_e) rfl (fun _ h => (by cases h)) ext_nil (fun q h => (by cases h)) (enF c12_25_k) (fun _ h => (by cases h))

noncomputable def zh116 : AH := [zc11, qiC 0 [qgN 32 0 0], qkC 100 2, qkC 100 3]
noncomputable def c70_0 : Ct := (70, 1, (4, [qtN 0 0 7, qtN 1 0 3], [], [qvR 0, qvS 0, qvS 1], zh116, []),
  [((4, [], [], [qvK (.ofNat 0)], zh116, []), 0, 0)])
noncomputable def c70_0_e : List Ct := []
noncomputable def c70_0_pts : List PE := []
set_option maxRecDepth 100000 in
theorem c70_0_k : enCtF c70_0 c70_0_e (pkP (c70_0_pts ++ []) []) (none) noH 3000 = true := by decide +kernel
set_option maxRecDepth 100000 in
theorem c70_0_v : ValidC PPk c70_0 := ct_ok fpk noH_ok (d := 0) (ext := []) (pts := c70_0_pts) (env := c70_0_e) rfl (fun _ h => (by cases h)) ext_nil (fun q h => (by cases h)) (enF c70_0_k) (fun _ h => (by cases h))

noncomputable def zh117 : AH := [zc11, qkC 100 1, qkC 100 2, qkC 100 3]
noncomputable def c73_1 : Ct := (73, 1, (4, [qtA 0], [], [qvR 0, qvS 0], zh117, []),
  [((4, [], [], [qvK (.ofNat 0)], zh117, []), 0, 0)])
noncomputable def c73_1_e : List Ct := []
noncomputable def c73_1_pts : List PE := []
set_option maxRecDepth 100000 in
theorem c73_1_k : enCtF c73_1 c73_1_e (pkP (c73_1_pts ++ []) []) (none) noH 3000 = true := by decide +kernel
set_option maxRecDepth 100000 in
theorem c73_1_v : ValidC PPk c73_1 := ct_ok fpk noH_ok (d := 0) (ext := []) (pts := c73_1_pts) (env := c73_1_e) rfl (fun _ h => (by cases h)) ext_nil (fun q h => (by cases h)) (enF c73_1_k) (fun _ h => (by cases h))

noncomputable def c92_0 : Ct := (92, 2, (2, [qtA 0, qtA 1], [], [qvR 0, qvS 0, qvS 1], zh43, []),
  [((2, [(0, (.negSucc 2147483647), (.negSucc 0))], [], [qvK (.negSucc 1999999999)], zh43, []), 0, 0),
   ((2, [qtN 0 8 2147483647], [], [qvK (.negSucc 1999999999)], zh43, []), 0, 0),
   ((2, [qtN 0 0 7, (1, (.negSucc 2147483647), (.negSucc 0))], [], [qvK (.negSucc 1999999999)], zh43, []), 0, 0),
   ((2, [qtN 0 0 7, qtN 1 5 2147483647], [], [qvK (.negSucc 1999999999)], zh43, []), 0, 0),
   ((2, [qtN 0 0 7, qtN 1 2 4], [], [qvK (.ofNat 0)], zh43, []), 0, 0),
   ((2, [qtN 0 0 7, qtN 1 1 1], [], [qvK (.ofNat 0)], zh43, []), 0, 0),
   ((2, [qtN 0 0 7, qtN 1 0 0], [], [qvK (.ofNat 0)], zh43, []), 0, 0)])
noncomputable def c92_0_e : List Ct := [c12_25, c12_5, c70_0, c73_1]
noncomputable def c92_0_pts : List PE := []
set_option maxRecDepth 100000 in
theorem c92_0_k : enCtF c92_0 c92_0_e (pkP (c92_0_pts ++ []) []) (none) noH 3000 = true := by decide +kernel
set_option maxRecDepth 100000 in
theorem c92_0_v : ValidC PPk c92_0 := ct_ok fpk noH_ok (d := 1) (ext := []) (pts := c92_0_pts) (env := c92_0_e) rfl (List.forall_mem_cons.mpr ⟨⟨c12_25_v, Nat.le_of_ble_eq_true rfl⟩, List.forall_mem_cons.mpr ⟨⟨c12_5_v, Nat.le_of_ble_eq_true rfl⟩, List.forall_mem_cons.mpr ⟨⟨c70_0_v, Nat.le_of_ble_eq_true rfl⟩, List.forall_mem_cons.mpr ⟨⟨c73_1_v, Nat.le_of_ble_eq_true rfl⟩, fun _ h => (by cases h)⟩⟩⟩⟩) ext_nil (fun q h => (by cases h)) (enF c92_0_k) (fun _ h => (by cases h))

noncomputable def c175_18 : Ct := (175, 1, (2, [qtN 0 0 2, qtN 1 17 24], [], [qvR 0, qvS 0, qvS 1], zh29, []),
  [((2, [], [], [qvK (.ofNat 0)], zh29, []), 0, 0)])
noncomputable def c175_18_e : List Ct := []
noncomputable def c175_18_pts : List PE := []
set_option maxRecDepth 100000 in
theorem c175_18_k : enCtF c175_18 c175_18_e (pkP (c175_18_pts ++ []) []) (some (0, 0, 3)) noH 3000 = true := by decide +kernel
set_option maxRecDepth 100000 in
theorem c175_18_v : ValidC PPk c175_18 := ct_ok fpk noH_ok (d := 0) (ext := []) (pts := c175_18_pts) (env := c175_18_e) rfl (fun _ h => (by cases h)) ext_nil (fun q h => (by cases h; exact Nat.le_of_ble_eq_true rfl)) (enF c175_18_k) (fun _ h => (by cases h))

noncomputable def c200_0 : Ct := (200, 2, (2, [qtA 0, qtA 1], [], [qvR 0, qvS 0, qvS 1], zh29, []),
  [((2, [(0, (.negSucc 2147483647), (.negSucc 0))], [], [qvK (.negSucc 1999999999)], zh29, []), 0, 0),
   ((2, [qtN 0 8 2147483647], [], [qvK (.negSucc 1999999999)], zh29, []), 0, 0),
   ((2, [qtN 0 0 7, (1, (.negSucc 2147483647), (.negSucc 0))], [], [qvK (.negSucc 1999999999)], zh29, []), 0, 0),
   ((2, [qtN 0 0 7, qtN 1 5 2147483647], [], [qvK (.negSucc 1999999999)], zh29, []), 0, 0),
   ((2, [qtN 0 0 7, qtN 1 2 4], [], [qvK (.ofNat 0)], zh29, []), 0, 0),
   ((2, [qtN 0 0 7, qtN 1 0 1], [], [qvK (.ofNat 0)], zh29, []), 0, 0)])
noncomputable def c200_0_e : List Ct := [c145_25, c145_5, c175_18]
noncomputable def c200_0_pts : List PE := []
set_option maxRecDepth 100000 in
theorem c200_0_k : enCtF c200_0 c200_0_e (pkP (c200_0_pts ++ []) []) (none) noH 3000 = true := by decide +kernel
set_option maxRecDepth 100000 in
theorem c200_0_v : ValidC PPk c200_0 := ct_ok fpk noH_ok (d := 1) (ext := []) (pts := c200_0_pts) (env := c200_0_e) rfl (List.forall_mem_cons.mpr ⟨⟨c145_25_v, Nat.le_of_ble_eq_true rfl⟩, List.forall_mem_cons.mpr ⟨⟨c145_5_v, Nat.le_of_ble_eq_true rfl⟩, List.forall_mem_cons.mpr ⟨⟨c175_18_v, Nat.le_of_ble_eq_true rfl⟩, fun _ h => (by cases h)⟩⟩⟩) ext_nil (fun q h => (by cases h)) (enF c200_0_k) (fun _ h => (by cases h))

noncomputable def c93_0 : Ct := (93, 2, (1, [qtA 0], [], [qvR 0, qvS 0], zh43, []),
  [((1, [(0, (.negSucc 2147483647), (.negSucc 0))], [], [qvK (.negSucc 1999999999)], zh43, []), 0, 0),
   ((1, [qtN 0 2 2147483647], [], [qvK (.negSucc 1999999999)], zh43, []), 0, 0),
   ((1, [qtN 0 0 1], [], [qvK (.ofNat 0)], zh43, []), 0, 0)])
noncomputable def c93_0_e : List Ct := [c12_4]
noncomputable def c93_0_pts : List PE := []
set_option maxRecDepth 100000 in
theorem c93_0_k : enCtF c93_0 c93_0_e (pkP (c93_0_pts ++ []) []) (none) noH 3000 = true := by decide +kernel
set_option maxRecDepth 100000 in
theorem c93_0_v : ValidC PPk c93_0 := ct_ok fpk noH_ok (d := 1) (ext := []) (pts := c93_0_pts) (env := c93_0_e) rfl (List.forall_mem_cons.mpr ⟨⟨c12_4_v, Nat.le_of_ble_eq_true rfl⟩, fun _ h => (by cases h)⟩) ext_nil (fun q h => (by cases h)) (enF c93_0_k) (fun _ h => (by cases h))

noncomputable def c201_0 : Ct := (201, 2, (1, [qtA 0], [], [qvR 0, qvS 0], zh29, []),
  [((1, [(0, (.negSucc 2147483647), (.negSucc 0))], [], [qvK (.negSucc 1999999999)], zh29, []), 0, 0),
   ((1, [qtN 0 2 2147483647], [], [qvK (.negSucc 1999999999)], zh29, []), 0, 0),
   ((1, [qtN 0 0 1], [], [qvK (.ofNat 0)], zh29, []), 0, 0)])
noncomputable def c201_0_e : List Ct := [c145_4]
noncomputable def c201_0_pts : List PE := []
set_option maxRecDepth 100000 in
theorem c201_0_k : enCtF c201_0 c201_0_e (pkP (c201_0_pts ++ []) []) (none) noH 3000 = true := by decide +kernel
set_option maxRecDepth 100000 in
theorem c201_0_v : ValidC PPk c201_0 := ct_ok fpk noH_ok (d := 1) (ext := []) (pts := c201_0_pts) (env := c201_0_e) rfl (List.forall_mem_cons.mpr ⟨⟨c145_4_v, Nat.le_of_ble_eq_true rfl⟩, fun _ h => (by cases h)⟩) ext_nil (fun q h => (by cases h)) (enF c201_0_k) (fun _ h => (by cases h))

noncomputable def c12_26 : Ct := (12, 1, (1, [qtA 0], [], [qvS 0, qvK (.ofNat 0), qvK (.ofNat 9999)], [], []),
  [((1, [(0, (.negSucc 2147483647), (.negSucc 0))], [], [qvK (.ofNat 0)], [], []), 0, 0),
   ((1, [qtN 0 10000 2147483647], [], [qvK (.ofNat 0)], [], []), 0, 0),
   ((1, [qtN 0 0 9999], [], [qvK (.ofNat 1)], [], []), 0, 0)])
noncomputable def c12_26_e : List Ct := []
noncomputable def c12_26_pts : List PE := []
set_option maxRecDepth 100000 in
theorem c12_26_k : enCtF c12_26 c12_26_e (pkP (c12_26_pts ++ []) []) (none) noH 3000 = true := by decide +kernel
set_option maxRecDepth 100000 in
theorem c12_26_v : ValidC PPk c12_26 := ct_ok fpk noH_ok (d := 0) (ext := []) (pts := c12_26_pts) (env := c12_26_e) rfl (fun _ h => (by cases h)) ext_nil (fun q h => (by cases h)) (enF c12_26_k) (fun _ h => (by cases h))

noncomputable def c12_27 : Ct := (12, 1, (1, [qtA 0], [], [qvS 0, qvK (.ofNat 0), qvK (.ofNat 31)], [], []),
  [((1, [(0, (.negSucc 2147483647), (.negSucc 0))], [], [qvK (.ofNat 0)], [], []), 0, 0),
   ((1, [qtN 0 32 2147483647], [], [qvK (.ofNat 0)], [], []), 0, 0),
   ((1, [qtN 0 0 31], [], [qvK (.ofNat 1)], [], []), 0, 0)])
noncomputable def c12_27_e : List Ct := []
noncomputable def c12_27_pts : List PE := []
set_option maxRecDepth 100000 in
theorem c12_27_k : enCtF c12_27 c12_27_e (pkP (c12_27_pts ++ []) []) (none) noH 3000 = true := by decide +kernel
set_option maxRecDepth 100000 in
theorem c12_27_v : ValidC PPk c12_27 := ct_ok fpk noH_ok (d := 0) (ext := []) (pts := c12_27_pts) (env := c12_27_e) rfl (fun _ h => (by cases h)) ext_nil (fun q h => (by cases h)) (enF c12_27_k) (fun _ h => (by cases h))

noncomputable def zc118 : AC := qoC 6 [qvK (.ofNat 1), qvR 1, qvR 2, qvR 3, qvR 4, qvR 5]
noncomputable def zc119 : AC := qiC 0 [qgN 0 0 0, qgS 3, qgN 7 0 0]
noncomputable def c95_0 : Ct := (95, 1, (4, [qtA 0, qtA 1, qtA 2, qtA 3], [], [qvR 0, qvK (.ofNat 0), qvS 0, qvS 1, qvS 2, qvS 3], zh6, []),
  [((4, [], [], [], [zc118, qiC 0 [qgN 8 0 0], zc70, zc71, zc72, zc119], []), 0, 0)])
noncomputable def c95_0_e : List Ct := []
noncomputable def c95_0_pts : List PE := []
set_option maxRecDepth 100000 in
theorem c95_0_k : enCtF c95_0 c95_0_e (pkP (c95_0_pts ++ []) []) (none) noH 3000 = true := by decide +kernel
set_option maxRecDepth 100000 in
theorem c95_0_v : ValidC PPk c95_0 := ct_ok fpk noH_ok (d := 0) (ext := []) (pts := c95_0_pts) (env := c95_0_e) rfl (fun _ h => (by cases h)) ext_nil (fun q h => (by cases h)) (enF c95_0_k) (fun _ h => (by cases h))

noncomputable def zc120 : AC := qiC 0 [qgN 0 0 0, .inl ((.ofNat 1), []), qgN 7 0 0]
noncomputable def c95_1 : Ct := (95, 1, (4, [qtA 0, qtA 1, qtA 2, qtA 3], [], [qvR 0, qvK (.ofNat 1), qvS 0, qvS 1, qvS 2, qvS 3], zh6, []),
  [((4, [], [], [], [zc118, zc120, zc70, zc71, zc72, zc119], []), 0, 0)])
noncomputable def c95_1_e : List Ct := []
noncomputable def c95_1_pts : List PE := []
set_option maxRecDepth 100000 in
theorem c95_1_k : enCtF c95_1 c95_1_e (pkP (c95_1_pts ++ []) []) (none) noH 3000 = true := by decide +kernel
set_option maxRecDepth 100000 in
theorem c95_1_v : ValidC PPk c95_1 := ct_ok fpk noH_ok (d := 0) (ext := []) (pts := c95_1_pts) (env := c95_1_e) rfl (fun _ h => (by cases h)) ext_nil (fun q h => (by cases h)) (enF c95_1_k) (fun _ h => (by cases h))

noncomputable def c12_28 : Ct := (12, 1, (1, [qtA 0], [], [qvS 0, qvK (.ofNat 0), qvK (.negSucc 0)], [], []),
  [((1, [(0, (.negSucc 2147483647), (.negSucc 0))], [], [qvK (.ofNat 0)], [], []), 0, 0),
   ((1, [qtN 0 0 2147483647], [], [qvK (.ofNat 0)], [], []), 0, 0)])
noncomputable def c12_28_e : List Ct := []
noncomputable def c12_28_pts : List PE := []
set_option maxRecDepth 100000 in
theorem c12_28_k : enCtF c12_28 c12_28_e (pkP (c12_28_pts ++ []) []) (none) noH 3000 = true := by decide +kernel
set_option maxRecDepth 100000 in
theorem c12_28_v : ValidC PPk c12_28 := ct_ok fpk noH_ok (d := 0) (ext := []) (pts := c12_28_pts) (env := c12_28_e) rfl (fun _ h => (by cases h)) ext_nil (fun q h => (by cases h)) (enF c12_28_k) (fun _ h => (by cases h))

noncomputable def zc121 : AC := qiC 0 [qgN 0 0 0, .inl ((.ofNat 3), []), qgN 7 0 0]
noncomputable def c95_2 : Ct := (95, 1, (2, [qtA 0, qtA 1], [], [qvR 0, qvK (.ofNat 3), qvS 0, qvS 1, qvK (.ofNat 0), qvK (.ofNat 0)], zh6, []),
  [((2, [], [], [], [zc118, zc121, zc70, zc71, qiC 0 [qgN 8 0 0], qiC 0 [qgN 8 0 0]], []), 0, 0)])
noncomputable def c95_2_e : List Ct := []
noncomputable def c95_2_pts : List PE := []
set_option maxRecDepth 100000 in
theorem c95_2_k : enCtF c95_2 c95_2_e (pkP (c95_2_pts ++ []) []) (none) noH 3000 = true := by decide +kernel
set_option maxRecDepth 100000 in
theorem c95_2_v : ValidC PPk c95_2 := ct_ok fpk noH_ok (d := 0) (ext := []) (pts := c95_2_pts) (env := c95_2_e) rfl (fun _ h => (by cases h)) ext_nil (fun q h => (by cases h)) (enF c95_2_k) (fun _ h => (by cases h))

noncomputable def zc122 : AC := qiC 0 [qgN 0 0 0, .inl ((.ofNat 4), []), qgN 7 0 0]
noncomputable def c95_3 : Ct := (95, 1, (2, [qtA 0, qtA 1], [], [qvR 0, qvK (.ofNat 4), qvS 0, qvS 1, qvK (.ofNat 0), qvK (.ofNat 0)], zh6, []),
  [((2, [], [], [], [zc118, zc122, zc70, zc71, qiC 0 [qgN 8 0 0], qiC 0 [qgN 8 0 0]], []), 0, 0)])
noncomputable def c95_3_e : List Ct := []
noncomputable def c95_3_pts : List PE := []
set_option maxRecDepth 100000 in
theorem c95_3_k : enCtF c95_3 c95_3_e (pkP (c95_3_pts ++ []) []) (none) noH 3000 = true := by decide +kernel
set_option maxRecDepth 100000 in
theorem c95_3_v : ValidC PPk c95_3 := ct_ok fpk noH_ok (d := 0) (ext := []) (pts := c95_3_pts) (env := c95_3_e) rfl (fun _ h => (by cases h)) ext_nil (fun q h => (by cases h)) (enF c95_3_k) (fun _ h => (by cases h))

noncomputable def zc123 : AC := qoC 6 [qvK (.ofNat 1), qvR 33, qvR 34, qvR 35, qvR 36, qvR 37]
noncomputable def zc124 : AC := qiC 0 [qgN 0 0 0, qgS 4, qgN 7 0 0]
noncomputable def c94_0 : Ct := (94, 3, (5, [qtA 0, qtA 1, qtA 2, qtA 3, qtA 4], [], [qvR 0, qvS 0, qvS 1, qvS 2, qvS 3, qvS 4], zh43, []),
  [((5, [(0, (.negSucc 2147483647), (.negSucc 0))], [], [qvK (.negSucc 1)], zh43, []), 0, 0),
   ((5, [qtN 0 5 2147483647], [], [qvK (.negSucc 1)], zh43, []), 0, 0),
   ((5, [qtN 0 0 4, (1, (.negSucc 2147483647), (.negSucc 0))], [], [qvK (.negSucc 1)], zh43, []), 0, 0),
   ((5, [qtN 0 0 4, qtN 1 10000 2147483647], [], [qvK (.negSucc 1)], zh43, []), 0, 0),
   ((5, [qtN 0 0 0, qtN 1 0 9999, (2, (.negSucc 2147483647), (.negSucc 0))], [], [qvK (.negSucc 1)], zh43, []), 0, 0),
   ((5, [qtN 0 0 0, qtN 1 0 9999, qtN 2 3 2147483647], [], [qvK (.negSucc 1)], zh43, []), 0, 0),
   ((5, [qtN 0 0 0, qtN 1 0 9999, qtN 2 0 2, (3, (.negSucc 2147483647), (.negSucc 0))], [], [qvK (.negSucc 1)], zh43, []), 0, 0),
   ((5, [qtN 0 0 0, qtN 1 0 9999, qtN 2 0 2, qtN 3 12 2147483647], [], [qvK (.negSucc 1)], zh43, []), 0, 0),
   ((5, [qtN 0 0 0, qtN 1 0 9999, qtN 2 0 2, qtN 3 0 11, (4, (.negSucc 2147483647), (.negSucc 0))], [], [qvK (.negSucc 1)], zh43, []), 0, 0),
   ((5, [qtN 0 0 0, qtN 1 0 9999, qtN 2 0 2, qtN 3 0 11, qtN 4 32 2147483647], [], [qvK (.negSucc 1)], zh43, []), 0, 0),
   ((5, [qtN 0 0 0, qtN 1 0 9999, qtN 2 0 2, qtN 3 0 11, qtN 4 0 31], [], [qvK (.ofNat 0)], [zc23, zc15, qrC 4 [some 3, some 8], zc16, qiC 0 [qgN 60 0 0], qiC 0 [qgN 60 0 0], qiC 0 [qgN 60 0 0], qiC 0 [qgN 60 0 0], zc17, qiC 0 [qgN 60 0 0], qiC 0 [qgN 60 0 0], qiC 0 [qgN 60 0 0], qiC 0 [qgN 60 0 0], zc18, qiC 0 [qgN 6 0 0], qiC 0 [qgN 6 0 0], qiC 0 [qgN 8 0 0], qiC 0 [qgN 8 0 0], qiC 0 [qgN 8 0 0], qiC 0 [qgN 8 0 0], qiC 0 [qgN 8 0 0], zc19, qiC 0 [qgN 6 0 0], qiC 0 [qgN 6 0 0], qiC 0 [qgN 6 0 0], qiC 0 [qgN 6 0 0], zc9, zc10, zc20, qiC 2 [qgN 60 0 0], qiC 0 [qgN 60 0 0], qjC 1 1000000060, zc123, qiC 0 [qgN 8 0 0], zc71, zc72, zc119, zc124, qiC 0 [qgN 10 0 0], qiC 0 [qgN 4 0 0], qiC 0 [qgN 4 0 0], zc37, zc38, zc39, qiC 0 [qgN 12 0 0], zc40, qiC 0 [qgN 12 0 0], zc41, qiC 0 [qgN 12 0 0], zc24, qiC 0 [qgN 12 0 0], zc42, qiC 0 [qgN 32 0 0], qiC 0 [qgN 8 0 0], qiC 0 [qgN 8 0 0], qiC 0 [qgN 2 0 0], qiC 0 [qgN 6 0 0], zc26, qjC 1 1000000006, qjC 1 1000000004, qrC 6 [none, none], qrC 7 [none, none]], []), 0, 0),
   ((5, [qtN 0 1 1, qtN 1 0 9999, (2, (.negSucc 2147483647), (.negSucc 0))], [], [qvK (.negSucc 1)], zh43, []), 0, 0),
   ((5, [qtN 0 1 1, qtN 1 0 9999, qtN 2 3 2147483647], [], [qvK (.negSucc 1)], zh43, []), 0, 0),
   ((5, [qtN 0 1 1, qtN 1 0 9999, qtN 2 0 2, (3, (.negSucc 2147483647), (.negSucc 0))], [], [qvK (.negSucc 1)], zh43, []), 0, 0),
   ((5, [qtN 0 1 1, qtN 1 0 9999, qtN 2 0 2, qtN 3 12 2147483647], [], [qvK (.negSucc 1)], zh43, []), 0, 0),
   ((5, [qtN 0 1 1, qtN 1 0 9999, qtN 2 0 2, qtN 3 0 11, (4, (.negSucc 2147483647), (.negSucc 0))], [], [qvK (.negSucc 1)], zh43, []), 0, 0),
   ((5, [qtN 0 1 1, qtN 1 0 9999, qtN 2 0 2, qtN 3 0 11, qtN 4 32 2147483647], [], [qvK (.negSucc 1)], zh43, []), 0, 0),
   ((5, [qtN 0 1 1, qtN 1 0 9999, qtN 2 0 2, qtN 3 0 11, qtN 4 0 31], [], [qvK (.ofNat 0)], [zc23, zc15, qrC 4 [some 3, some 8], zc16, qiC 0 [qgN 60 0 0], qiC 0 [qgN 60 0 0], qiC 0 [qgN 60 0 0], qiC 0 [qgN 60 0 0], zc17, qiC 0 [qgN 60 0 0], qiC 0 [qgN 60 0 0], qiC 0 [qgN 60 0 0], qiC 0 [qgN 60 0 0], zc18, qiC 0 [qgN 6 0 0], qiC 0 [qgN 6 0 0], qiC 0 [qgN 8 0 0], qiC 0 [qgN 8 0 0], qiC 0 [qgN 8 0 0], qiC 0 [qgN 8 0 0], qiC 0 [qgN 8 0 0], zc19, qiC 0 [qgN 6 0 0], qiC 0 [qgN 6 0 0], qiC 0 [qgN 6 0 0], qiC 0 [qgN 6 0 0], zc9, zc10, zc20, qiC 2 [qgN 60 0 0], qiC 0 [qgN 60 0 0], qjC 1 1000000060, zc123, zc120, zc71, zc72, zc119, zc124, qiC 0 [qgN 10 0 0], qiC 0 [qgN 4 0 0], qiC 0 [qgN 4 0 0], zc37, zc38, zc39, qiC 0 [qgN 12 0 0], zc40, qiC 0 [qgN 12 0 0], zc41, qiC 0 [qgN 12 0 0], zc24, qiC 0 [qgN 12 0 0], zc42, qiC 0 [qgN 32 0 0], qiC 0 [qgN 8 0 0], qiC 0 [qgN 8 0 0], qiC 0 [qgN 2 0 0], qiC 0 [qgN 6 0 0], zc26, qjC 1 1000000006, qjC 1 1000000004, qrC 6 [none, none], qrC 7 [none, none]], []), 0, 0),
   ((5, [qtN 0 2 2, qtN 1 0 9999, (2, (.negSucc 2147483647), (.negSucc 0))], [], [qvK (.negSucc 1)], zh43, []), 0, 0),
   ((5, [qtN 0 2 2, qtN 1 0 9999, qtN 2 0 2147483647], [], [qvK (.negSucc 1)], zh43, []), 0, 0),
   ((5, [qtN 0 3 3, qtN 1 0 9999, (2, (.negSucc 2147483647), (.negSucc 0))], [], [qvK (.negSucc 1)], zh43, []), 0, 0),
   ((5, [qtN 0 3 3, qtN 1 0 9999, qtN 2 3 2147483647], [], [qvK (.negSucc 1)], zh43, []), 0, 0),
   ((5, [qtN 0 3 3, qtN 1 0 9999, qtN 2 0 2], [], [qvK (.ofNat 0)], [zc23, zc15, qrC 4 [some 3, some 8], zc16, qiC 0 [qgN 60 0 0], qiC 0 [qgN 60 0 0], qiC 0 [qgN 60 0 0], qiC 0 [qgN 60 0 0], zc17, qiC 0 [qgN 60 0 0], qiC 0 [qgN 60 0 0], qiC 0 [qgN 60 0 0], qiC 0 [qgN 60 0 0], zc18, qiC 0 [qgN 6 0 0], qiC 0 [qgN 6 0 0], qiC 0 [qgN 8 0 0], qiC 0 [qgN 8 0 0], qiC 0 [qgN 8 0 0], qiC 0 [qgN 8 0 0], qiC 0 [qgN 8 0 0], zc19, qiC 0 [qgN 6 0 0], qiC 0 [qgN 6 0 0], qiC 0 [qgN 6 0 0], qiC 0 [qgN 6 0 0], zc9, zc10, zc20, qiC 2 [qgN 60 0 0], qiC 0 [qgN 60 0 0], qjC 1 1000000060, zc123, zc121, zc71, zc72, qiC 0 [qgN 8 0 0], qiC 0 [qgN 8 0 0], qiC 0 [qgN 10 0 0], qiC 0 [qgN 4 0 0], qiC 0 [qgN 4 0 0], zc37, zc38, zc39, qiC 0 [qgN 12 0 0], zc40, qiC 0 [qgN 12 0 0], zc41, qiC 0 [qgN 12 0 0], zc24, qiC 0 [qgN 12 0 0], zc42, qiC 0 [qgN 32 0 0], qiC 0 [qgN 8 0 0], qiC 0 [qgN 8 0 0], qiC 0 [qgN 2 0 0], qiC 0 [qgN 6 0 0], zc26, qjC 1 1000000006, qjC 1 1000000004, qrC 6 [none, none], qrC 7 [none, none]], []), 0, 0),
   ((5, [qtN 0 4 4, qtN 1 0 9999, (2, (.negSucc 2147483647), (.negSucc 0))], [], [qvK (.negSucc 1)], zh43, []), 0, 0),
   ((5, [qtN 0 4 4, qtN 1 0 9999, qtN 2 3 2147483647], [], [qvK (.negSucc 1)], zh43, []), 0, 0),
   ((5, [qtN 0 4 4, qtN 1 0 9999, qtN 2 0 2], [], [qvK (.ofNat 0)], [zc23, zc15, qrC 4 [some 3, some 8], zc16, qiC 0 [qgN 60 0 0], qiC 0 [qgN 60 0 0], qiC 0 [qgN 60 0 0], qiC 0 [qgN 60 0 0], zc17, qiC 0 [qgN 60 0 0], qiC 0 [qgN 60 0 0], qiC 0 [qgN 60 0 0], qiC 0 [qgN 60 0 0], zc18, qiC 0 [qgN 6 0 0], qiC 0 [qgN 6 0 0], qiC 0 [qgN 8 0 0], qiC 0 [qgN 8 0 0], qiC 0 [qgN 8 0 0], qiC 0 [qgN 8 0 0], qiC 0 [qgN 8 0 0], zc19, qiC 0 [qgN 6 0 0], qiC 0 [qgN 6 0 0], qiC 0 [qgN 6 0 0], qiC 0 [qgN 6 0 0], zc9, zc10, zc20, qiC 2 [qgN 60 0 0], qiC 0 [qgN 60 0 0], qjC 1 1000000060, zc123, zc122, zc71, zc72, qiC 0 [qgN 8 0 0], qiC 0 [qgN 8 0 0], qiC 0 [qgN 10 0 0], qiC 0 [qgN 4 0 0], qiC 0 [qgN 4 0 0], zc37, zc38, zc39, qiC 0 [qgN 12 0 0], zc40, qiC 0 [qgN 12 0 0], zc41, qiC 0 [qgN 12 0 0], zc24, qiC 0 [qgN 12 0 0], zc42, qiC 0 [qgN 32 0 0], qiC 0 [qgN 8 0 0], qiC 0 [qgN 8 0 0], qiC 0 [qgN 2 0 0], qiC 0 [qgN 6 0 0], zc26, qjC 1 1000000006, qjC 1 1000000004, qrC 6 [none, none], qrC 7 [none, none]], []), 0, 0)])
noncomputable def c94_0_e : List Ct := [c12_2, c12_25, c12_26, c12_27, c12_28, c90_0, c95_0, c95_1, c95_2, c95_3]
noncomputable def c94_0_pts : List PE := []
set_option maxRecDepth 100000 in
theorem c94_0_k : enCtF c94_0 c94_0_e (pkP (c94_0_pts ++ []) []) (none) ((hSplit 23 1 ), noM, 0, 8388608, 5) 3000 = true := by decide +kernel
set_option maxRecDepth 100000 in
theorem c94_0_v : ValidC PPk c94_0 := ct_ok fpk ⟨(hSplit_ok 23 1 ), noM_ok⟩ (d := 2) (ext := []) (pts := c94_0_pts) (env := c94_0_e) rfl (List.forall_mem_cons.mpr ⟨⟨c12_2_v, Nat.le_of_ble_eq_true rfl⟩, List.forall_mem_cons.mpr ⟨⟨c12_25_v, Nat.le_of_ble_eq_true rfl⟩, List.forall_mem_cons.mpr ⟨⟨c12_26_v, Nat.le_of_ble_eq_true rfl⟩, List.forall_mem_cons.mpr ⟨⟨c12_27_v, Nat.le_of_ble_eq_true rfl⟩, List.forall_mem_cons.mpr ⟨⟨c12_28_v, Nat.le_of_ble_eq_true rfl⟩, List.forall_mem_cons.mpr ⟨⟨c90_0_v, Nat.le_of_ble_eq_true rfl⟩, List.forall_mem_cons.mpr ⟨⟨c95_0_v, Nat.le_of_ble_eq_true rfl⟩, List.forall_mem_cons.mpr ⟨⟨c95_1_v, Nat.le_of_ble_eq_true rfl⟩, List.forall_mem_cons.mpr ⟨⟨c95_2_v, Nat.le_of_ble_eq_true rfl⟩, List.forall_mem_cons.mpr ⟨⟨c95_3_v, Nat.le_of_ble_eq_true rfl⟩, fun _ h => (by cases h)⟩⟩⟩⟩⟩⟩⟩⟩⟩⟩) ext_nil (fun q h => (by cases h)) (enF c94_0_k) (fun _ h => (by cases h))

noncomputable def c145_26 : Ct := (145, 1, (1, [qtA 0], [], [qvS 0, qvK (.ofNat 0), qvK (.ofNat 9999)], [], []),
  [((1, [(0, (.negSucc 2147483647), (.negSucc 0))], [], [qvK (.ofNat 0)], [], []), 0, 0),
   ((1, [qtN 0 10000 2147483647], [], [qvK (.ofNat 0)], [], []), 0, 0),
   ((1, [qtN 0 0 9999], [], [qvK (.ofNat 1)], [], []), 0, 0)])
noncomputable def c145_26_e : List Ct := []
noncomputable def c145_26_pts : List PE := []
set_option maxRecDepth 100000 in
theorem c145_26_k : enCtF c145_26 c145_26_e (pkP (c145_26_pts ++ []) []) (none) noH 3000 = true := by decide +kernel
set_option maxRecDepth 100000 in
theorem c145_26_v : ValidC PPk c145_26 := ct_ok fpk noH_ok (d := 0) (ext := []) (pts := c145_26_pts) (env := c145_26_e) rfl (fun _ h => (by cases h)) ext_nil (fun q h => (by cases h)) (enF c145_26_k) (fun _ h => (by cases h))

noncomputable def c145_27 : Ct := (145, 1, (1, [qtA 0], [], [qvS 0, qvK (.ofNat 0), qvK (.ofNat 31)], [], []),
  [((1, [(0, (.negSucc 2147483647), (.negSucc 0))], [], [qvK (.ofNat 0)], [], []), 0, 0),
   ((1, [qtN 0 32 2147483647], [], [qvK (.ofNat 0)], [], []), 0, 0),
   ((1, [qtN 0 0 31], [], [qvK (.ofNat 1)], [], []), 0, 0)])
noncomputable def c145_27_e : List Ct := []
noncomputable def c145_27_pts : List PE := []
set_option maxRecDepth 100000 in
theorem c145_27_k : enCtF c145_27 c145_27_e (pkP (c145_27_pts ++ []) []) (none) noH 3000 = true := by decide +kernel
set_option maxRecDepth 100000 in
theorem c145_27_v : ValidC PPk c145_27 := ct_ok fpk noH_ok (d := 0) (ext := []) (pts := c145_27_pts) (env := c145_27_e) rfl (fun _ h => (by cases h)) ext_nil (fun q h => (by cases h)) (enF c145_27_k) (fun _ h => (by cases h))

noncomputable def c145_28 : Ct := (145, 1, (1, [qtA 0], [], [qvS 0, qvK (.ofNat 0), qvK (.negSucc 0)], [], []),
  [((1, [(0, (.negSucc 2147483647), (.negSucc 0))], [], [qvK (.ofNat 0)], [], []), 0, 0),
   ((1, [qtN 0 0 2147483647], [], [qvK (.ofNat 0)], [], []), 0, 0)])
noncomputable def c145_28_e : List Ct := []
noncomputable def c145_28_pts : List PE := []
set_option maxRecDepth 100000 in
theorem c145_28_k : enCtF c145_28 c145_28_e (pkP (c145_28_pts ++ []) []) (none) noH 3000 = true := by decide +kernel
set_option maxRecDepth 100000 in
theorem c145_28_v : ValidC PPk c145_28 := ct_ok fpk noH_ok (d := 0) (ext := []) (pts := c145_28_pts) (env := c145_28_e) rfl (fun _ h => (by cases h)) ext_nil (fun q h => (by cases h)) (enF c145_28_k) (fun _ h => (by cases h))

noncomputable def zh125 : AH := [zc27, qiC 0 [qgN 0 0 0, .inl ((.ofNat 3), []), qgN 3 0 0, .inl ((.ofNat 1), []), qgN 3 0 0, .inl ((.ofNat 3), []), qgN 0 0 0, .inl ((.ofNat 5), []), qgN 7 0 0, .inl ((.ofNat 100), []), qgN 2 0 0, .inl ((.negSucc 0), []), qgN 21 0 0, .inl ((.ofNat 1), []), qgN 39 0 0, .inl ((.ofNat 1), []), qgN 39 0 0, .inl ((.ofNat 1), []), qgN 39 0 0, .inl ((.ofNat 1), []), qgN 621 0 0, .inl ((.negSucc 99), []), qgN 0 0 0, .inl ((.ofNat 100), []), qgN 0 0 0, .inl ((.negSucc 99), []), qgN 0 0 0, .inl ((.ofNat 100), []), qgN 0 0 0, .inl ((.negSucc 99), []), qgN 0 0 0, .inl ((.ofNat 100), []), qgN 0 0 0, .inl ((.negSucc 99), []), qgN 0 0 0, .inl ((.ofNat 100), []), qgN 0 0 0, qgS 0, qgN 0 0 0, qgS 1, qgN 0 0 0, qgS 2, qgN 0 0 0, qgS 3, qgN 0 0 0, qgS 4, qgN 113 0 0], qiC 0 [qgN 1820 0 0], qiC 3 [qgN 2 0 0], qiC 0 [qgN 70 0 0], qiC 0 [qgN 70 0 0], qiC 0 [qgN 70 0 0], qjC 1 1000000070, qjC 1 1000000008, qiC 0 [qgN 910 0 0], qiC 0 [qgN 910 0 0], qiC 0 [qgN 20 0 0], qiC 0 [qgN 20 0 0], qiC 0 [qgN 910 0 0], qjC 1 1000000004]
noncomputable def c202_0 : Ct := (202, 3, (5, [qtA 0, qtA 1, qtA 2, qtA 3, qtA 4], [], [qvR 0, qvS 0, qvS 1, qvS 2, qvS 3, qvS 4], zh29, []),
  [((5, [(0, (.negSucc 2147483647), (.negSucc 0))], [], [qvK (.negSucc 1)], zh29, []), 0, 0),
   ((5, [qtN 0 5 2147483647], [], [qvK (.negSucc 1)], zh29, []), 0, 0),
   ((5, [qtN 0 0 4, (1, (.negSucc 2147483647), (.negSucc 0))], [], [qvK (.negSucc 1)], zh29, []), 0, 0),
   ((5, [qtN 0 0 4, qtN 1 10000 2147483647], [], [qvK (.negSucc 1)], zh29, []), 0, 0),
   ((5, [qtN 0 0 0, qtN 1 0 9999, (2, (.negSucc 2147483647), (.negSucc 0))], [], [qvK (.negSucc 1)], zh29, []), 0, 0),
   ((5, [qtN 0 0 0, qtN 1 0 9999, qtN 2 3 2147483647], [], [qvK (.negSucc 1)], zh29, []), 0, 0),
   ((5, [qtN 0 0 0, qtN 1 0 9999, qtN 2 0 2, (3, (.negSucc 2147483647), (.negSucc 0))], [], [qvK (.negSucc 1)], zh29, []), 0, 0),
   ((5, [qtN 0 0 0, qtN 1 0 9999, qtN 2 0 2, qtN 3 12 2147483647], [], [qvK (.negSucc 1)], zh29, []), 0, 0),
   ((5, [qtN 0 0 0, qtN 1 0 9999, qtN 2 0 2, qtN 3 0 11, (4, (.negSucc 2147483647), (.negSucc 0))], [], [qvK (.negSucc 1)], zh29, []), 0, 0),
   ((5, [qtN 0 0 0, qtN 1 0 9999, qtN 2 0 2, qtN 3 0 11, qtN 4 32 2147483647], [], [qvK (.negSucc 1)], zh29, []), 0, 0),
   ((5, [qtN 0 0 0, qtN 1 0 9999, qtN 2 0 2, qtN 3 0 11, qtN 4 0 31], [], [qvK (.ofNat 0)], [zc27, qiC 0 [qgN 0 0 0, .inl ((.ofNat 3), []), qgN 3 0 0, .inl ((.ofNat 1), []), qgN 3 0 0, .inl ((.ofNat 3), []), qgN 0 0 0, .inl ((.ofNat 5), []), qgN 7 0 0, .inl ((.ofNat 100), []), qgN 2 0 0, .inl ((.negSucc 0), []), qgN 21 0 0, .inl ((.ofNat 1), []), qgN 39 0 0, .inl ((.ofNat 1), []), qgN 39 0 0, .inl ((.ofNat 1), []), qgN 39 0 0, .inl ((.ofNat 1), []), qgN 621 0 0, .inl ((.negSucc 99), []), qgN 0 0 0, .inl ((.ofNat 100), []), qgN 0 0 0, .inl ((.negSucc 99), []), qgN 0 0 0, .inl ((.ofNat 100), []), qgN 0 0 0, .inl ((.negSucc 99), []), qgN 0 0 0, .inl ((.ofNat 100), []), qgN 0 0 0, .inl ((.negSucc 99), []), qgN 0 0 0, .inl ((.ofNat 100), []), qgN 1 0 0, qgS 1, qgN 0 0 0, qgS 2, qgN 0 0 0, qgS 3, qgN 0 0 0, qgS 4, qgN 113 0 0], qiC 0 [qgN 1820 0 0], qiC 3 [qgN 2 0 0], qiC 0 [qgN 70 0 0], qiC 0 [qgN 70 0 0], qiC 0 [qgN 70 0 0], qjC 1 1000000070, qjC 1 1000000008, qiC 0 [qgN 910 0 0], qiC 0 [qgN 910 0 0], qiC 0 [qgN 20 0 0], qiC 0 [qgN 20 0 0], qiC 0 [qgN 910 0 0], qjC 1 1000000004], []), 0, 0),
   ((5, [qtN 0 1 1, qtN 1 0 9999, (2, (.negSucc 2147483647), (.negSucc 0))], [], [qvK (.negSucc 1)], zh29, []), 0, 0),
   ((5, [qtN 0 1 1, qtN 1 0 9999, qtN 2 3 2147483647], [], [qvK (.negSucc 1)], zh29, []), 0, 0),
   ((5, [qtN 0 1 1, qtN 1 0 9999, qtN 2 0 2, (3, (.negSucc 2147483647), (.negSucc 0))], [], [qvK (.negSucc 1)], zh29, []), 0, 0),
   ((5, [qtN 0 1 1, qtN 1 0 9999, qtN 2 0 2, qtN 3 12 2147483647], [], [qvK (.negSucc 1)], zh29, []), 0, 0),
   ((5, [qtN 0 1 1, qtN 1 0 9999, qtN 2 0 2, qtN 3 0 11, (4, (.negSucc 2147483647), (.negSucc 0))], [], [qvK (.negSucc 1)], zh29, []), 0, 0),
   ((5, [qtN 0 1 1, qtN 1 0 9999, qtN 2 0 2, qtN 3 0 11, qtN 4 32 2147483647], [], [qvK (.negSucc 1)], zh29, []), 0, 0),
   ((5, [qtN 0 1 1, qtN 1 0 9999, qtN 2 0 2, qtN 3 0 11, qtN 4 0 31], [], [qvK (.ofNat 0)], zh125, []), 0, 0),
   ((5, [qtN 0 2 2, qtN 1 0 9999, (2, (.negSucc 2147483647), (.negSucc 0))], [], [qvK (.negSucc 1)], zh29, []), 0, 0),
   ((5, [qtN 0 2 2, qtN 1 0 9999, qtN 2 0 2147483647], [], [qvK (.negSucc 1)], zh29, []), 0, 0),
   ((5, [qtN 0 3 3, qtN 1 0 9999, (2, (.negSucc 2147483647), (.negSucc 0))], [], [qvK (.negSucc 1)], zh29, []), 0, 0),
   ((5, [qtN 0 3 3, qtN 1 0 9999, qtN 2 3 2147483647], [], [qvK (.negSucc 1)], zh29, []), 0, 0),
   ((5, [qtN 0 3 3, qtN 1 0 9999, qtN 2 0 2], [], [qvK (.ofNat 0)], zh125, []), 0, 0),
   ((5, [qtN 0 4 4, qtN 1 0 9999, (2, (.negSucc 2147483647), (.negSucc 0))], [], [qvK (.negSucc 1)], zh29, []), 0, 0),
   ((5, [qtN 0 4 4, qtN 1 0 9999, qtN 2 3 2147483647], [], [qvK (.negSucc 1)], zh29, []), 0, 0),
   ((5, [qtN 0 4 4, qtN 1 0 9999, qtN 2 0 2], [], [qvK (.ofNat 0)], zh125, []), 0, 0)])
noncomputable def c202_0_e : List Ct := [c145_2, c145_25, c145_26, c145_27, c145_28, c173_0]
noncomputable def c202_0_pts : List PE := []
set_option maxRecDepth 100000 in
theorem c202_0_k : enCtF c202_0 c202_0_e (pkP (c202_0_pts ++ []) []) (none) ((hSplit 20 1 ), noM, 0, 1048576, 5) 3000 = true := by decide +kernel
set_option maxRecDepth 100000 in
theorem c202_0_v : ValidC PPk c202_0 := ct_ok fpk ⟨(hSplit_ok 20 1 ), noM_ok⟩ (d := 2) (ext := []) (pts := c202_0_pts) (env := c202_0_e) rfl (List.forall_mem_cons.mpr ⟨⟨c145_2_v, Nat.le_of_ble_eq_true rfl⟩, List.forall_mem_cons.mpr ⟨⟨c145_25_v, Nat.le_of_ble_eq_true rfl⟩, List.forall_mem_cons.mpr ⟨⟨c145_26_v, Nat.le_of_ble_eq_true rfl⟩, List.forall_mem_cons.mpr ⟨⟨c145_27_v, Nat.le_of_ble_eq_true rfl⟩, List.forall_mem_cons.mpr ⟨⟨c145_28_v, Nat.le_of_ble_eq_true rfl⟩, List.forall_mem_cons.mpr ⟨⟨c173_0_v, Nat.le_of_ble_eq_true rfl⟩, fun _ h => (by cases h)⟩⟩⟩⟩⟩⟩) ext_nil (fun q h => (by cases h)) (enF c202_0_k) (fun _ h => (by cases h))

noncomputable def zc126 : AC := qoC 2 [qvK (.ofNat 1), qvR 9, qvR 10, qvR 11, qvR 12]
noncomputable def c96_0 : Ct := (96, 4, (4, [qtA 0, qtA 1, qtA 2, qtA 3], [], [qvR 0, qvS 0, qvS 1, qvS 2, qvS 3], zh43, []),
  [((4, [(0, (.negSucc 2147483647), (.negSucc 0))], [], [qvK (.negSucc 1)], zh43, []), 0, 0),
   ((4, [qtN 0 11 2147483647], [], [qvK (.negSucc 1)], zh43, []), 0, 0),
   ((4, [qtN 0 0 10, (1, (.negSucc 2147483647), (.negSucc 0))], [], [qvK (.negSucc 1)], zh43, []), 0, 0),
   ((4, [qtN 0 0 10, qtN 1 12 2147483647], [], [qvK (.negSucc 1)], zh43, []), 0, 0),
   ((4, [qtN 0 0 0, qtN 1 0 11], [], [qvK (.ofNat 1)], [zc23, zc15, qrC 4 [some 3, some 8], zc16, qiC 0 [qgN 60 0 0], qiC 0 [qgN 60 0 0], qiC 0 [qgN 60 0 0], qiC 0 [qgN 60 0 0], zc126, qiC 0 [qgN 60 0 0], zc48, zc49, zc61, zc18, qiC 0 [qgN 6 0 0], qiC 0 [qgN 6 0 0], qiC 0 [qgN 8 0 0], qiC 0 [qgN 8 0 0], qiC 0 [qgN 8 0 0], qiC 0 [qgN 8 0 0], qiC 0 [qgN 8 0 0], zc19, qiC 0 [qgN 6 0 0], qiC 0 [qgN 6 0 0], qiC 0 [qgN 6 0 0], qiC 0 [qgN 6 0 0], zc9, zc10, zc20, qiC 2 [qgN 60 0 0], qiC 0 [qgN 60 0 0], qjC 1 1000000060, zc21, qiC 0 [qgN 8 0 0], qiC 0 [qgN 8 0 0], qiC 0 [qgN 8 0 0], qiC 0 [qgN 8 0 0], qiC 0 [qgN 8 0 0], qiC 0 [qgN 10 0 0], qiC 0 [qgN 4 0 0], qiC 0 [qgN 4 0 0], zc37, zc38, zc39, qiC 0 [qgN 12 0 0], zc40, qiC 0 [qgN 12 0 0], zc41, qiC 0 [qgN 12 0 0], zc24, qiC 0 [qgN 12 0 0], zc42, qiC 0 [qgN 32 0 0], qiC 0 [qgN 8 0 0], qiC 0 [qgN 8 0 0], qiC 0 [qgN 2 0 0], qiC 0 [qgN 6 0 0], zc26, qjC 1 1000000006, qjC 1 1000000004, qrC 6 [none, none], qrC 7 [none, none]], []), 0, 0),
   ((4, [qtN 0 1 1, qtN 1 0 11, (2, (.negSucc 2147483647), (.negSucc 0))], [], [qvK (.negSucc 1)], zh43, []), 0, 0),
   ((4, [qtN 0 1 1, qtN 1 0 11, qtN 2 12 2147483647], [], [qvK (.negSucc 1)], zh43, []), 0, 0),
   ((4, [qtN 0 1 1, qtN 1 0 11, qtN 2 0 11, (3, (.negSucc 2147483647), (.negSucc 0))], [], [qvK (.negSucc 1)], zh43, []), 0, 0),
   ((4, [qtN 0 1 1, qtN 1 0 11, qtN 2 0 11, qtN 3 12 2147483647], [], [qvK (.negSucc 1)], zh43, []), 0, 0),
   ((4, [qtN 0 1 1, qtN 1 0 11, qtN 2 0 11, qtN 3 0 11], [], [qvK (.ofNat 1)], [zc23, zc15, qrC 4 [some 3, some 8], zc16, qiC 0 [qgN 60 0 0], qiC 0 [qgN 60 0 0], qiC 0 [qgN 60 0 0], qiC 0 [qgN 60 0 0], zc126, zc50, zc48, zc49, zc61, zc18, qiC 0 [qgN 6 0 0], qiC 0 [qgN 6 0 0], qiC 0 [qgN 8 0 0], qiC 0 [qgN 8 0 0], qiC 0 [qgN 8 0 0], qiC 0 [qgN 8 0 0], qiC 0 [qgN 8 0 0], zc19, qiC 0 [qgN 6 0 0], qiC 0 [qgN 6 0 0], qiC 0 [qgN 6 0 0], qiC 0 [qgN 6 0 0], zc9, zc10, zc20, qiC 2 [qgN 60 0 0], qiC 0 [qgN 60 0 0], qjC 1 1000000060, zc21, qiC 0 [qgN 8 0 0], qiC 0 [qgN 8 0 0], qiC 0 [qgN 8 0 0], qiC 0 [qgN 8 0 0], qiC 0 [qgN 8 0 0], qiC 0 [qgN 10 0 0], qiC 0 [qgN 4 0 0], qiC 0 [qgN 4 0 0], zc37, zc38, zc39, qiC 0 [qgN 12 0 0], zc40, qiC 0 [qgN 12 0 0], zc41, qiC 0 [qgN 12 0 0], zc24, qiC 0 [qgN 12 0 0], zc42, qiC 0 [qgN 32 0 0], qiC 0 [qgN 8 0 0], qiC 0 [qgN 8 0 0], qiC 0 [qgN 2 0 0], qiC 0 [qgN 6 0 0], zc26, qjC 1 1000000006, qjC 1 1000000004, qrC 6 [none, none], qrC 7 [none, none]], []), 0, 0),
   ((4, [qtN 0 2 2, qtN 1 0 11, (2, (.negSucc 2147483647), (.negSucc 0))], [], [qvK (.negSucc 1)], zh43, []), 0, 0),
   ((4, [qtN 0 2 2, qtN 1 0 11, qtN 2 12 2147483647], [], [qvK (.negSucc 1)], zh43, []), 0, 0),
   ((4, [qtN 0 2 2, qtN 1 0 11, qtN 2 0 11, (3, (.negSucc 2147483647), (.negSucc 0))], [], [qvK (.negSucc 1)], zh43, []), 0, 0),
   ((4, [qtN 0 2 2, qtN 1 0 11, qtN 2 0 11, qtN 3 12 2147483647], [], [qvK (.negSucc 1)], zh43, []), 0, 0),
   ((4, [qtN 0 2 2, qtN 1 0 11, qtN 2 0 11, qtN 3 0 11], [], [qvK (.ofNat 1)], [zc23, zc15, qrC 4 [some 3, some 8], zc16, qiC 0 [qgN 60 0 0], qiC 0 [qgN 60 0 0], qiC 0 [qgN 60 0 0], qiC 0 [qgN 60 0 0], zc126, zc51, zc48, zc49, zc61, zc18, qiC 0 [qgN 6 0 0], qiC 0 [qgN 6 0 0], qiC 0 [qgN 8 0 0], qiC 0 [qgN 8 0 0], qiC 0 [qgN 8 0 0], qiC 0 [qgN 8 0 0], qiC 0 [qgN 8 0 0], zc19, qiC 0 [qgN 6 0 0], qiC 0 [qgN 6 0 0], qiC 0 [qgN 6 0 0], qiC 0 [qgN 6 0 0], zc9, zc10, zc20, qiC 2 [qgN 60 0 0], qiC 0 [qgN 60 0 0], qjC 1 1000000060, zc21, qiC 0 [qgN 8 0 0], qiC 0 [qgN 8 0 0], qiC 0 [qgN 8 0 0], qiC 0 [qgN 8 0 0], qiC 0 [qgN 8 0 0], qiC 0 [qgN 10 0 0], qiC 0 [qgN 4 0 0], qiC 0 [qgN 4 0 0], zc37, zc38, zc39, qiC 0 [qgN 12 0 0], zc40, qiC 0 [qgN 12 0 0], zc41, qiC 0 [qgN 12 0 0], zc24, qiC 0 [qgN 12 0 0], zc42, qiC 0 [qgN 32 0 0], qiC 0 [qgN 8 0 0], qiC 0 [qgN 8 0 0], qiC 0 [qgN 2 0 0], qiC 0 [qgN 6 0 0], zc26, qjC 1 1000000006, qjC 1 1000000004, qrC 6 [none, none], qrC 7 [none, none]], []), 0, 0),
   ((4, [qtN 0 3 3, qtN 1 0 11, (2, (.negSucc 2147483647), (.negSucc 0))], [], [qvK (.negSucc 1)], zh43, []), 0, 0),
   ((4, [qtN 0 3 3, qtN 1 0 11, qtN 2 12 2147483647], [], [qvK (.negSucc 1)], zh43, []), 0, 0),
   ((4, [qtN 0 3 3, qtN 1 0 11, qtN 2 0 11, (3, (.negSucc 2147483647), (.negSucc 0))], [], [qvK (.negSucc 1)], zh43, []), 0, 0),
   ((4, [qtN 0 3 3, qtN 1 0 11, qtN 2 0 11, qtN 3 12 2147483647], [], [qvK (.negSucc 1)], zh43, []), 0, 0),
   ((4, [qtN 0 3 3, qtN 1 0 11, qtN 2 0 11, qtN 3 0 11], [], [qvK (.ofNat 1)], [zc23, zc15, qrC 4 [some 3, some 8], zc16, qiC 0 [qgN 60 0 0], qiC 0 [qgN 60 0 0], qiC 0 [qgN 60 0 0], qiC 0 [qgN 60 0 0], zc126, zc52, zc48, zc49, zc61, zc18, qiC 0 [qgN 6 0 0], qiC 0 [qgN 6 0 0], qiC 0 [qgN 8 0 0], qiC 0 [qgN 8 0 0], qiC 0 [qgN 8 0 0], qiC 0 [qgN 8 0 0], qiC 0 [qgN 8 0 0], zc19, qiC 0 [qgN 6 0 0], qiC 0 [qgN 6 0 0], qiC 0 [qgN 6 0 0], qiC 0 [qgN 6 0 0], zc9, zc10, zc20, qiC 2 [qgN 60 0 0], qiC 0 [qgN 60 0 0], qjC 1 1000000060, zc21, qiC 0 [qgN 8 0 0], qiC 0 [qgN 8 0 0], qiC 0 [qgN 8 0 0], qiC 0 [qgN 8 0 0], qiC 0 [qgN 8 0 0], qiC 0 [qgN 10 0 0], qiC 0 [qgN 4 0 0], qiC 0 [qgN 4 0 0], zc37, zc38, zc39, qiC 0 [qgN 12 0 0], zc40, qiC 0 [qgN 12 0 0], zc41, qiC 0 [qgN 12 0 0], zc24, qiC 0 [qgN 12 0 0], zc42, qiC 0 [qgN 32 0 0], qiC 0 [qgN 8 0 0], qiC 0 [qgN 8 0 0], qiC 0 [qgN 2 0 0], qiC 0 [qgN 6 0 0], zc26, qjC 1 1000000006, qjC 1 1000000004, qrC 6 [none, none], qrC 7 [none, none]], []), 0, 0),
   ((4, [qtN 0 4 4, qtN 1 0 11, (2, (.negSucc 2147483647), (.negSucc 0))], [], [qvK (.negSucc 1)], zh43, []), 0, 0),
   ((4, [qtN 0 4 4, qtN 1 0 11, qtN 2 12 2147483647], [], [qvK (.negSucc 1)], zh43, []), 0, 0),
   ((4, [qtN 0 4 4, qtN 1 0 11, qtN 2 0 11, (3, (.negSucc 2147483647), (.negSucc 0))], [], [qvK (.negSucc 1)], zh43, []), 0, 0),
   ((4, [qtN 0 4 4, qtN 1 0 11, qtN 2 0 11, qtN 3 12 2147483647], [], [qvK (.negSucc 1)], zh43, []), 0, 0),
   ((4, [qtN 0 4 4, qtN 1 0 11, qtN 2 0 11, qtN 3 0 11], [], [qvK (.ofNat 1)], [zc23, zc15, qrC 4 [some 3, some 8], zc16, qiC 0 [qgN 60 0 0], qiC 0 [qgN 60 0 0], qiC 0 [qgN 60 0 0], qiC 0 [qgN 60 0 0], zc126, zc53, zc48, zc49, zc61, zc18, qiC 0 [qgN 6 0 0], qiC 0 [qgN 6 0 0], qiC 0 [qgN 8 0 0], qiC 0 [qgN 8 0 0], qiC 0 [qgN 8 0 0], qiC 0 [qgN 8 0 0], qiC 0 [qgN 8 0 0], zc19, qiC 0 [qgN 6 0 0], qiC 0 [qgN 6 0 0], qiC 0 [qgN 6 0 0], qiC 0 [qgN 6 0 0], zc9, zc10, zc20, qiC 2 [qgN 60 0 0], qiC 0 [qgN 60 0 0], qjC 1 1000000060, zc21, qiC 0 [qgN 8 0 0], qiC 0 [qgN 8 0 0], qiC 0 [qgN 8 0 0], qiC 0 [qgN 8 0 0], qiC 0 [qgN 8 0 0], qiC 0 [qgN 10 0 0], qiC 0 [qgN 4 0 0], qiC 0 [qgN 4 0 0], zc37, zc38, zc39, qiC 0 [qgN 12 0 0], zc40, qiC 0 [qgN 12 0 0], zc41, qiC 0 [qgN 12 0 0], zc24, qiC 0 [qgN 12 0 0], zc42, qiC 0 [qgN 32 0 0], qiC 0 [qgN 8 0 0], qiC 0 [qgN 8 0 0], qiC 0 [qgN 2 0 0], qiC 0 [qgN 6 0 0], zc26, qjC 1 1000000006, qjC 1 1000000004, qrC 6 [none, none], qrC 7 [none, none]], []), 0, 0),
   ((4, [qtN 0 5 5, qtN 1 0 11, (2, (.negSucc 2147483647), (.negSucc 0))], [], [qvK (.negSucc 1)], zh43, []), 0, 0),
   ((4, [qtN 0 5 5, qtN 1 0 11, qtN 2 12 2147483647], [], [qvK (.negSucc 1)], zh43, []), 0, 0),
   ((4, [qtN 0 5 5, qtN 1 0 11, qtN 2 0 11, (3, (.negSucc 2147483647), (.negSucc 0))], [], [qvK (.negSucc 1)], zh43, []), 0, 0),
   ((4, [qtN 0 5 5, qtN 1 0 11, qtN 2 0 11, qtN 3 12 2147483647], [], [qvK (.negSucc 1)], zh43, []), 0, 0),
   ((4, [qtN 0 5 5, qtN 1 0 11, qtN 2 0 11, qtN 3 0 11], [], [qvK (.ofNat 1)], [zc23, zc15, qrC 4 [some 3, some 8], zc16, qiC 0 [qgN 60 0 0], qiC 0 [qgN 60 0 0], qiC 0 [qgN 60 0 0], qiC 0 [qgN 60 0 0], zc126, zc54, zc48, zc49, zc61, zc18, qiC 0 [qgN 6 0 0], qiC 0 [qgN 6 0 0], qiC 0 [qgN 8 0 0], qiC 0 [qgN 8 0 0], qiC 0 [qgN 8 0 0], qiC 0 [qgN 8 0 0], qiC 0 [qgN 8 0 0], zc19, qiC 0 [qgN 6 0 0], qiC 0 [qgN 6 0 0], qiC 0 [qgN 6 0 0], qiC 0 [qgN 6 0 0], zc9, zc10, zc20, qiC 2 [qgN 60 0 0], qiC 0 [qgN 60 0 0], qjC 1 1000000060, zc21, qiC 0 [qgN 8 0 0], qiC 0 [qgN 8 0 0], qiC 0 [qgN 8 0 0], qiC 0 [qgN 8 0 0], qiC 0 [qgN 8 0 0], qiC 0 [qgN 10 0 0], qiC 0 [qgN 4 0 0], qiC 0 [qgN 4 0 0], zc37, zc38, zc39, qiC 0 [qgN 12 0 0], zc40, qiC 0 [qgN 12 0 0], zc41, qiC 0 [qgN 12 0 0], zc24, qiC 0 [qgN 12 0 0], zc42, qiC 0 [qgN 32 0 0], qiC 0 [qgN 8 0 0], qiC 0 [qgN 8 0 0], qiC 0 [qgN 2 0 0], qiC 0 [qgN 6 0 0], zc26, qjC 1 1000000006, qjC 1 1000000004, qrC 6 [none, none], qrC 7 [none, none]], []), 0, 0),
   ((4, [qtN 0 6 6, qtN 1 0 11, (2, (.negSucc 2147483647), (.negSucc 0))], [], [qvK (.negSucc 1)], zh43, []), 0, 0),
   ((4, [qtN 0 6 6, qtN 1 0 11, qtN 2 12 2147483647], [], [qvK (.negSucc 1)], zh43, []), 0, 0),
   ((4, [qtN 0 6 6, qtN 1 0 11, qtN 2 0 11, (3, (.negSucc 2147483647), (.negSucc 0))], [], [qvK (.negSucc 1)], zh43, []), 0, 0),
   ((4, [qtN 0 6 6, qtN 1 0 11, qtN 2 0 11, qtN 3 12 2147483647], [], [qvK (.negSucc 1)], zh43, []), 0, 0),
   ((4, [qtN 0 6 6, qtN 1 0 11, qtN 2 0 11, qtN 3 0 11], [], [qvK (.ofNat 1)], [zc23, zc15, qrC 4 [some 3, some 8], zc16, qiC 0 [qgN 60 0 0], qiC 0 [qgN 60 0 0], qiC 0 [qgN 60 0 0], qiC 0 [qgN 60 0 0], zc126, zc55, zc48, zc49, zc61, zc18, qiC 0 [qgN 6 0 0], qiC 0 [qgN 6 0 0], qiC 0 [qgN 8 0 0], qiC 0 [qgN 8 0 0], qiC 0 [qgN 8 0 0], qiC 0 [qgN 8 0 0], qiC 0 [qgN 8 0 0], zc19, qiC 0 [qgN 6 0 0], qiC 0 [qgN 6 0 0], qiC 0 [qgN 6 0 0], qiC 0 [qgN 6 0 0], zc9, zc10, zc20, qiC 2 [qgN 60 0 0], qiC 0 [qgN 60 0 0], qjC 1 1000000060, zc21, qiC 0 [qgN 8 0 0], qiC 0 [qgN 8 0 0], qiC 0 [qgN 8 0 0], qiC 0 [qgN 8 0 0], qiC 0 [qgN 8 0 0], qiC 0 [qgN 10 0 0], qiC 0 [qgN 4 0 0], qiC 0 [qgN 4 0 0], zc37, zc38, zc39, qiC 0 [qgN 12 0 0], zc40, qiC 0 [qgN 12 0 0], zc41, qiC 0 [qgN 12 0 0], zc24, qiC 0 [qgN 12 0 0], zc42, qiC 0 [qgN 32 0 0], qiC 0 [qgN 8 0 0], qiC 0 [qgN 8 0 0], qiC 0 [qgN 2 0 0], qiC 0 [qgN 6 0 0], zc26, qjC 1 1000000006, qjC 1 1000000004, qrC 6 [none, none], qrC 7 [none, none]], []), 0, 0),
   ((4, [qtN 0 7 7, qtN 1 0 11, (2, (.negSucc 2147483647), (.ofNat 0))], [], [qvK (.negSucc 1)], zh43, []), 0, 0),
   ((4, [qtN 0 7 7, qtN 1 0 11, qtN 2 21 2147483647], [], [qvK (.negSucc 1)], zh43, []), 0, 0),
   ((4, [qtN 0 7 7, qtN 1 0 11, qtN 2 1 20], [], [qvK (.ofNat 1)], [zc23, zc15, qrC 4 [some 3, some 8], zc16, qiC 0 [qgN 60 0 0], qiC 0 [qgN 60 0 0], qiC 0 [qgN 60 0 0], qiC 0 [qgN 60 0 0], zc126, zc56, zc48, zc49, zc61, zc18, qiC 0 [qgN 6 0 0], qiC 0 [qgN 6 0 0], qiC 0 [qgN 8 0 0], qiC 0 [qgN 8 0 0], qiC 0 [qgN 8 0 0], qiC 0 [qgN 8 0 0], qiC 0 [qgN 8 0 0], zc19, qiC 0 [qgN 6 0 0], qiC 0 [qgN 6 0 0], qiC 0 [qgN 6 0 0], qiC 0 [qgN 6 0 0], zc9, zc10, zc20, qiC 2 [qgN 60 0 0], qiC 0 [qgN 60 0 0], qjC 1 1000000060, zc21, qiC 0 [qgN 8 0 0], qiC 0 [qgN 8 0 0], qiC 0 [qgN 8 0 0], qiC 0 [qgN 8 0 0], qiC 0 [qgN 8 0 0], qiC 0 [qgN 10 0 0], qiC 0 [qgN 4 0 0], qiC 0 [qgN 4 0 0], zc37, zc38, zc39, qiC 0 [qgN 12 0 0], zc40, qiC 0 [qgN 12 0 0], zc41, qiC 0 [qgN 12 0 0], zc24, qiC 0 [qgN 12 0 0], zc42, qiC 0 [qgN 32 0 0], qiC 0 [qgN 8 0 0], qiC 0 [qgN 8 0 0], qiC 0 [qgN 2 0 0], qiC 0 [qgN 6 0 0], zc26, qjC 1 1000000006, qjC 1 1000000004, qrC 6 [none, none], qrC 7 [none, none]], []), 0, 0),
   ((4, [qtN 0 8 8, qtN 1 0 11, (2, (.negSucc 2147483647), (.negSucc 0))], [], [qvK (.negSucc 1)], zh43, []), 0, 0),
   ((4, [qtN 0 8 8, qtN 1 0 11, qtN 2 2 2147483647], [], [qvK (.negSucc 1)], zh43, []), 0, 0),
   ((4, [qtN 0 8 8, qtN 1 0 11, qtN 2 0 1], [], [qvK (.ofNat 1)], [zc23, zc15, qrC 4 [some 3, some 8], zc16, qiC 0 [qgN 60 0 0], qiC 0 [qgN 60 0 0], qiC 0 [qgN 60 0 0], qiC 0 [qgN 60 0 0], zc126, zc57, zc48, zc49, zc61, zc18, qiC 0 [qgN 6 0 0], qiC 0 [qgN 6 0 0], qiC 0 [qgN 8 0 0], qiC 0 [qgN 8 0 0], qiC 0 [qgN 8 0 0], qiC 0 [qgN 8 0 0], qiC 0 [qgN 8 0 0], zc19, qiC 0 [qgN 6 0 0], qiC 0 [qgN 6 0 0], qiC 0 [qgN 6 0 0], qiC 0 [qgN 6 0 0], zc9, zc10, zc20, qiC 2 [qgN 60 0 0], qiC 0 [qgN 60 0 0], qjC 1 1000000060, zc21, qiC 0 [qgN 8 0 0], qiC 0 [qgN 8 0 0], qiC 0 [qgN 8 0 0], qiC 0 [qgN 8 0 0], qiC 0 [qgN 8 0 0], qiC 0 [qgN 10 0 0], qiC 0 [qgN 4 0 0], qiC 0 [qgN 4 0 0], zc37, zc38, zc39, qiC 0 [qgN 12 0 0], zc40, qiC 0 [qgN 12 0 0], zc41, qiC 0 [qgN 12 0 0], zc24, qiC 0 [qgN 12 0 0], zc42, qiC 0 [qgN 32 0 0], qiC 0 [qgN 8 0 0], qiC 0 [qgN 8 0 0], qiC 0 [qgN 2 0 0], qiC 0 [qgN 6 0 0], zc26, qjC 1 1000000006, qjC 1 1000000004, qrC 6 [none, none], qrC 7 [none, none]], []), 0, 0),
   ((4, [qtN 0 9 9, qtN 1 0 11, (2, (.negSucc 2147483647), (.negSucc 0))], [], [qvK (.negSucc 1)], zh43, []), 0, 0),
   ((4, [qtN 0 9 9, qtN 1 0 11, qtN 2 8 2147483647], [], [qvK (.negSucc 1)], zh43, []), 0, 0),
   ((4, [qtN 0 9 9, qtN 1 0 11, qtN 2 0 7], [], [qvK (.ofNat 1)], [zc23, zc15, qrC 4 [some 3, some 8], zc16, qiC 0 [qgN 60 0 0], qiC 0 [qgN 60 0 0], qiC 0 [qgN 60 0 0], qiC 0 [qgN 60 0 0], zc126, zc58, zc48, zc49, zc61, zc18, qiC 0 [qgN 6 0 0], qiC 0 [qgN 6 0 0], qiC 0 [qgN 8 0 0], qiC 0 [qgN 8 0 0], qiC 0 [qgN 8 0 0], qiC 0 [qgN 8 0 0], qiC 0 [qgN 8 0 0], zc19, qiC 0 [qgN 6 0 0], qiC 0 [qgN 6 0 0], qiC 0 [qgN 6 0 0], qiC 0 [qgN 6 0 0], zc9, zc10, zc20, qiC 2 [qgN 60 0 0], qiC 0 [qgN 60 0 0], qjC 1 1000000060, zc21, qiC 0 [qgN 8 0 0], qiC 0 [qgN 8 0 0], qiC 0 [qgN 8 0 0], qiC 0 [qgN 8 0 0], qiC 0 [qgN 8 0 0], qiC 0 [qgN 10 0 0], qiC 0 [qgN 4 0 0], qiC 0 [qgN 4 0 0], zc37, zc38, zc39, qiC 0 [qgN 12 0 0], zc40, qiC 0 [qgN 12 0 0], zc41, qiC 0 [qgN 12 0 0], zc24, qiC 0 [qgN 12 0 0], zc42, qiC 0 [qgN 32 0 0], qiC 0 [qgN 8 0 0], qiC 0 [qgN 8 0 0], qiC 0 [qgN 2 0 0], qiC 0 [qgN 6 0 0], zc26, qjC 1 1000000006, qjC 1 1000000004, qrC 6 [none, none], qrC 7 [none, none]], []), 0, 0),
   ((4, [qtN 0 10 10, qtN 1 0 11, (2, (.negSucc 2147483647), (.ofNat 0))], [], [qvK (.negSucc 1)], zh43, []), 0, 0),
   ((4, [qtN 0 10 10, qtN 1 0 11, qtN 2 21 2147483647], [], [qvK (.negSucc 1)], zh43, []), 0, 0),
   ((4, [qtN 0 10 10, qtN 1 0 11, qtN 2 1 20], [], [qvK (.ofNat 1)], [zc23, zc15, qrC 4 [some 3, some 8], zc16, qiC 0 [qgN 60 0 0], qiC 0 [qgN 60 0 0], qiC 0 [qgN 60 0 0], qiC 0 [qgN 60 0 0], zc126, zc59, zc48, zc49, zc61, zc18, qiC 0 [qgN 6 0 0], qiC 0 [qgN 6 0 0], qiC 0 [qgN 8 0 0], qiC 0 [qgN 8 0 0], qiC 0 [qgN 8 0 0], qiC 0 [qgN 8 0 0], qiC 0 [qgN 8 0 0], zc19, qiC 0 [qgN 6 0 0], qiC 0 [qgN 6 0 0], qiC 0 [qgN 6 0 0], qiC 0 [qgN 6 0 0], zc9, zc10, zc20, qiC 2 [qgN 60 0 0], qiC 0 [qgN 60 0 0], qjC 1 1000000060, zc21, qiC 0 [qgN 8 0 0], qiC 0 [qgN 8 0 0], qiC 0 [qgN 8 0 0], qiC 0 [qgN 8 0 0], qiC 0 [qgN 8 0 0], qiC 0 [qgN 10 0 0], qiC 0 [qgN 4 0 0], qiC 0 [qgN 4 0 0], zc37, zc38, zc39, qiC 0 [qgN 12 0 0], zc40, qiC 0 [qgN 12 0 0], zc41, qiC 0 [qgN 12 0 0], zc24, qiC 0 [qgN 12 0 0], zc42, qiC 0 [qgN 32 0 0], qiC 0 [qgN 8 0 0], qiC 0 [qgN 8 0 0], qiC 0 [qgN 2 0 0], qiC 0 [qgN 6 0 0], zc26, qjC 1 1000000006, qjC 1 1000000004, qrC 6 [none, none], qrC 7 [none, none]], []), 0, 0)])
noncomputable def c96_0_e : List Ct := [c16_0, c18_0, c18_1, c18_10, c18_2, c18_3, c18_4, c18_5, c18_6, c18_7, c18_8, c18_9]
noncomputable def c96_0_pts : List PE := []
set_option maxRecDepth 100000 in
theorem c96_0_k : enCtF c96_0 c96_0_e (pkP (c96_0_pts ++ []) []) (none) noH 3000 = true := by decide +kernel
set_option maxRecDepth 100000 in
theorem c96_0_v : ValidC PPk c96_0 := ct_ok fpk noH_ok (d := 3) (ext := []) (pts := c96_0_pts) (env := c96_0_e) rfl (List.forall_mem_cons.mpr ⟨⟨c16_0_v, Nat.le_of_ble_eq_true rfl⟩, List.forall_mem_cons.mpr ⟨⟨c18_0_v, Nat.le_of_ble_eq_true rfl⟩, List.forall_mem_cons.mpr ⟨⟨c18_1_v, Nat.le_of_ble_eq_true rfl⟩, List.forall_mem_cons.mpr ⟨⟨c18_10_v, Nat.le_of_ble_eq_true rfl⟩, List.forall_mem_cons.mpr ⟨⟨c18_2_v, Nat.le_of_ble_eq_true rfl⟩, List.forall_mem_cons.mpr ⟨⟨c18_3_v, Nat.le_of_ble_eq_true rfl⟩, List.forall_mem_cons.mpr ⟨⟨c18_4_v, Nat.le_of_ble_eq_true rfl⟩, List.forall_mem_cons.mpr ⟨⟨c18_5_v, Nat.le_of_ble_eq_true rfl⟩, List.forall_mem_cons.mpr ⟨⟨c18_6_v, Nat.le_of_ble_eq_true rfl⟩, List.forall_mem_cons.mpr ⟨⟨c18_7_v, Nat.le_of_ble_eq_true rfl⟩, List.forall_mem_cons.mpr ⟨⟨c18_8_v, Nat.le_of_ble_eq_true rfl⟩, List.forall_mem_cons.mpr ⟨⟨c18_9_v, Nat.le_of_ble_eq_true rfl⟩, fun _ h => (by cases h)⟩⟩⟩⟩⟩⟩⟩⟩⟩⟩⟩⟩) ext_nil (fun q h => (by cases h)) (enF c96_0_k) (fun _ h => (by cases h))

noncomputable def c148_11 : Ct := (148, 1, (13, [qtA 0, qtA 1, qtA 2], [], [qvR 0, qvK (.ofNat 440), qvK (.ofNat 6), qvK (.ofNat 0), qvS 0, qvS 1, qvS 2], zh63, []),
  [((13, [], [], [qvK (.ofNat 1)], [zc27, qiC 0 [qgN 1 3 3, qgN 5 0 0, .inl ((.ofNat 1), []), qgN 1 0 0, qgN 1 3 3, qgN 1 5 5, qgN 7 0 0, qgN 1 100 100, qgN 2 0 0, .inr (1, (.negSucc 0), (.negSucc 0)), qgN 21 0 0, qgN 1 1 1, qgN 39 0 0, qgN 1 1 1, qgN 39 0 0, qgN 1 1 1, qgN 39 0 0, qgN 1 1 1, qgN 278 0 0, qgS 0, qgN 0 0 0, qgS 1, qgN 0 0 0, qgS 2, qgN 340 0 0, .inr (1, (.negSucc 99), (.negSucc 99)), qgN 1 100 100, .inr (1, (.negSucc 99), (.negSucc 99)), qgN 1 100 100, .inr (1, (.negSucc 99), (.negSucc 99)), qgN 1 100 100, .inr (1, (.negSucc 99), (.negSucc 99)), qgN 1 100 100, qgN 118 0 0], qkC 100 3, qkC 103 4, qkC 100 5, qkC 100 6, qkC 100 7, qjC 1 1000000070, qjC 1 1000000008, qkC 100 8, qkC 100 9, qkC 100 10, qkC 100 11, qkC 100 12, qjC 1 1000000004], []), 0, 0)])
noncomputable def c148_11_e : List Ct := []
noncomputable def c148_11_pts : List PE := []
set_option maxRecDepth 100000 in
theorem c148_11_k : enCtF c148_11 c148_11_e (pkP (c148_11_pts ++ []) []) (none) noH 3000 = true := by decide +kernel
set_option maxRecDepth 100000 in
theorem c148_11_v : ValidC PPk c148_11 := ct_ok fpk noH_ok (d := 0) (ext := []) (pts := c148_11_pts) (env := c148_11_e) rfl (fun _ h => (by cases h)) ext_nil (fun q h => (by cases h)) (enF c148_11_k) (fun _ h => (by cases h))

noncomputable def c148_12 : Ct := (148, 1, (13, [qtA 0, qtA 1, qtA 2], [], [qvR 0, qvK (.ofNat 440), qvK (.ofNat 6), qvK (.ofNat 1), qvS 0, qvS 1, qvS 2], zh63, []),
  [((13, [], [], [qvK (.ofNat 1)], [zc27, qiC 0 [qgN 1 3 3, qgN 5 0 0, .inl ((.ofNat 1), []), qgN 1 0 0, qgN 1 3 3, qgN 1 5 5, qgN 7 0 0, qgN 1 100 100, qgN 2 0 0, .inr (1, (.negSucc 0), (.negSucc 0)), qgN 21 0 0, qgN 1 1 1, qgN 39 0 0, qgN 1 1 1, qgN 39 0 0, qgN 1 1 1, qgN 39 0 0, qgN 1 1 1, qgN 277 0 0, .inl ((.ofNat 1), []), qgN 0 0 0, qgS 0, qgN 0 0 0, qgS 1, qgN 0 0 0, qgS 2, qgN 340 0 0, .inr (1, (.negSucc 99), (.negSucc 99)), qgN 1 100 100, .inr (1, (.negSucc 99), (.negSucc 99)), qgN 1 100 100, .inr (1, (.negSucc 99), (.negSucc 99)), qgN 1 100 100, .inr (1, (.negSucc 99), (.negSucc 99)), qgN 1 100 100, qgN 118 0 0], qkC 100 3, qkC 103 4, qkC 100 5, qkC 100 6, qkC 100 7, qjC 1 1000000070, qjC 1 1000000008, qkC 100 8, qkC 100 9, qkC 100 10, qkC 100 11, qkC 100 12, qjC 1 1000000004], []), 0, 0)])
noncomputable def c148_12_e : List Ct := []
noncomputable def c148_12_pts : List PE := []
set_option maxRecDepth 100000 in
theorem c148_12_k : enCtF c148_12 c148_12_e (pkP (c148_12_pts ++ []) []) (none) noH 3000 = true := by decide +kernel
set_option maxRecDepth 100000 in
theorem c148_12_v : ValidC PPk c148_12 := ct_ok fpk noH_ok (d := 0) (ext := []) (pts := c148_12_pts) (env := c148_12_e) rfl (fun _ h => (by cases h)) ext_nil (fun q h => (by cases h)) (enF c148_12_k) (fun _ h => (by cases h))

noncomputable def c148_13 : Ct := (148, 1, (13, [qtA 0, qtA 1, qtA 2], [], [qvR 0, qvK (.ofNat 440), qvK (.ofNat 6), qvK (.ofNat 2), qvS 0, qvS 1, qvS 2], zh63, []),
  [((13, [], [], [qvK (.ofNat 1)], [zc27, qiC 0 [qgN 1 3 3, qgN 5 0 0, .inl ((.ofNat 1), []), qgN 1 0 0, qgN 1 3 3, qgN 1 5 5, qgN 7 0 0, qgN 1 100 100, qgN 2 0 0, .inr (1, (.negSucc 0), (.negSucc 0)), qgN 21 0 0, qgN 1 1 1, qgN 39 0 0, qgN 1 1 1, qgN 39 0 0, qgN 1 1 1, qgN 39 0 0, qgN 1 1 1, qgN 277 0 0, .inl ((.ofNat 2), []), qgN 0 0 0, qgS 0, qgN 0 0 0, qgS 1, qgN 0 0 0, qgS 2, qgN 340 0 0, .inr (1, (.negSucc 99), (.negSucc 99)), qgN 1 100 100, .inr (1, (.negSucc 99), (.negSucc 99)), qgN 1 100 100, .inr (1, (.negSucc 99), (.negSucc 99)), qgN 1 100 100, .inr (1, (.negSucc 99), (.negSucc 99)), qgN 1 100 100, qgN 118 0 0], qkC 100 3, qkC 103 4, qkC 100 5, qkC 100 6, qkC 100 7, qjC 1 1000000070, qjC 1 1000000008, qkC 100 8, qkC 100 9, qkC 100 10, qkC 100 11, qkC 100 12, qjC 1 1000000004], []), 0, 0)])
noncomputable def c148_13_e : List Ct := []
noncomputable def c148_13_pts : List PE := []
set_option maxRecDepth 100000 in
theorem c148_13_k : enCtF c148_13 c148_13_e (pkP (c148_13_pts ++ []) []) (none) noH 3000 = true := by decide +kernel
set_option maxRecDepth 100000 in
theorem c148_13_v : ValidC PPk c148_13 := ct_ok fpk noH_ok (d := 0) (ext := []) (pts := c148_13_pts) (env := c148_13_e) rfl (fun _ h => (by cases h)) ext_nil (fun q h => (by cases h)) (enF c148_13_k) (fun _ h => (by cases h))

noncomputable def c148_14 : Ct := (148, 1, (13, [qtA 0, qtA 1, qtA 2], [], [qvR 0, qvK (.ofNat 440), qvK (.ofNat 6), qvK (.ofNat 3), qvS 0, qvS 1, qvS 2], zh63, []),
  [((13, [], [], [qvK (.ofNat 1)], [zc27, qiC 0 [qgN 1 3 3, qgN 5 0 0, .inl ((.ofNat 1), []), qgN 1 0 0, qgN 1 3 3, qgN 1 5 5, qgN 7 0 0, qgN 1 100 100, qgN 2 0 0, .inr (1, (.negSucc 0), (.negSucc 0)), qgN 21 0 0, qgN 1 1 1, qgN 39 0 0, qgN 1 1 1, qgN 39 0 0, qgN 1 1 1, qgN 39 0 0, qgN 1 1 1, qgN 277 0 0, .inl ((.ofNat 3), []), qgN 0 0 0, qgS 0, qgN 0 0 0, qgS 1, qgN 0 0 0, qgS 2, qgN 340 0 0, .inr (1, (.negSucc 99), (.negSucc 99)), qgN 1 100 100, .inr (1, (.negSucc 99), (.negSucc 99)), qgN 1 100 100, .inr (1, (.negSucc 99), (.negSucc 99)), qgN 1 100 100, .inr (1, (.negSucc 99), (.negSucc 99)), qgN 1 100 100, qgN 118 0 0], qkC 100 3, qkC 103 4, qkC 100 5, qkC 100 6, qkC 100 7, qjC 1 1000000070, qjC 1 1000000008, qkC 100 8, qkC 100 9, qkC 100 10, qkC 100 11, qkC 100 12, qjC 1 1000000004], []), 0, 0)])
noncomputable def c148_14_e : List Ct := []
noncomputable def c148_14_pts : List PE := []
set_option maxRecDepth 100000 in
theorem c148_14_k : enCtF c148_14 c148_14_e (pkP (c148_14_pts ++ []) []) (none) noH 3000 = true := by decide +kernel
set_option maxRecDepth 100000 in
theorem c148_14_v : ValidC PPk c148_14 := ct_ok fpk noH_ok (d := 0) (ext := []) (pts := c148_14_pts) (env := c148_14_e) rfl (fun _ h => (by cases h)) ext_nil (fun q h => (by cases h)) (enF c148_14_k) (fun _ h => (by cases h))

noncomputable def c148_15 : Ct := (148, 1, (13, [qtA 0, qtA 1, qtA 2], [], [qvR 0, qvK (.ofNat 440), qvK (.ofNat 6), qvK (.ofNat 4), qvS 0, qvS 1, qvS 2], zh63, []),
  [((13, [], [], [qvK (.ofNat 1)], [zc27, qiC 0 [qgN 1 3 3, qgN 5 0 0, .inl ((.ofNat 1), []), qgN 1 0 0, qgN 1 3 3, qgN 1 5 5, qgN 7 0 0, qgN 1 100 100, qgN 2 0 0, .inr (1, (.negSucc 0), (.negSucc 0)), qgN 21 0 0, qgN 1 1 1, qgN 39 0 0, qgN 1 1 1, qgN 39 0 0, qgN 1 1 1, qgN 39 0 0, qgN 1 1 1, qgN 277 0 0, .inl ((.ofNat 4), []), qgN 0 0 0, qgS 0, qgN 0 0 0, qgS 1, qgN 0 0 0, qgS 2, qgN 340 0 0, .inr (1, (.negSucc 99), (.negSucc 99)), qgN 1 100 100, .inr (1, (.negSucc 99), (.negSucc 99)), qgN 1 100 100, .inr (1, (.negSucc 99), (.negSucc 99)), qgN 1 100 100, .inr (1, (.negSucc 99), (.negSucc 99)), qgN 1 100 100, qgN 118 0 0], qkC 100 3, qkC 103 4, qkC 100 5, qkC 100 6, qkC 100 7, qjC 1 1000000070, qjC 1 1000000008, qkC 100 8, qkC 100 9, qkC 100 10, qkC 100 11, qkC 100 12, qjC 1 1000000004], []), 0, 0)])
noncomputable def c148_15_e : List Ct := []
noncomputable def c148_15_pts : List PE := []
set_option maxRecDepth 100000 in
theorem c148_15_k : enCtF c148_15 c148_15_e (pkP (c148_15_pts ++ []) []) (none) noH 3000 = true := by decide +kernel
set_option maxRecDepth 100000 in
theorem c148_15_v : ValidC PPk c148_15 := ct_ok fpk noH_ok (d := 0) (ext := []) (pts := c148_15_pts) (env := c148_15_e) rfl (fun _ h => (by cases h)) ext_nil (fun q h => (by cases h)) (enF c148_15_k) (fun _ h => (by cases h))

noncomputable def c148_16 : Ct := (148, 1, (13, [qtA 0, qtA 1, qtA 2], [], [qvR 0, qvK (.ofNat 440), qvK (.ofNat 6), qvK (.ofNat 5), qvS 0, qvS 1, qvS 2], zh63, []),
  [((13, [], [], [qvK (.ofNat 1)], [zc27, qiC 0 [qgN 1 3 3, qgN 5 0 0, .inl ((.ofNat 1), []), qgN 1 0 0, qgN 1 3 3, qgN 1 5 5, qgN 7 0 0, qgN 1 100 100, qgN 2 0 0, .inr (1, (.negSucc 0), (.negSucc 0)), qgN 21 0 0, qgN 1 1 1, qgN 39 0 0, qgN 1 1 1, qgN 39 0 0, qgN 1 1 1, qgN 39 0 0, qgN 1 1 1, qgN 277 0 0, .inl ((.ofNat 5), []), qgN 0 0 0, qgS 0, qgN 0 0 0, qgS 1, qgN 0 0 0, qgS 2, qgN 340 0 0, .inr (1, (.negSucc 99), (.negSucc 99)), qgN 1 100 100, .inr (1, (.negSucc 99), (.negSucc 99)), qgN 1 100 100, .inr (1, (.negSucc 99), (.negSucc 99)), qgN 1 100 100, .inr (1, (.negSucc 99), (.negSucc 99)), qgN 1 100 100, qgN 118 0 0], qkC 100 3, qkC 103 4, qkC 100 5, qkC 100 6, qkC 100 7, qjC 1 1000000070, qjC 1 1000000008, qkC 100 8, qkC 100 9, qkC 100 10, qkC 100 11, qkC 100 12, qjC 1 1000000004], []), 0, 0)])
noncomputable def c148_16_e : List Ct := []
noncomputable def c148_16_pts : List PE := []
set_option maxRecDepth 100000 in
theorem c148_16_k : enCtF c148_16 c148_16_e (pkP (c148_16_pts ++ []) []) (none) noH 3000 = true := by decide +kernel
set_option maxRecDepth 100000 in
theorem c148_16_v : ValidC PPk c148_16 := ct_ok fpk noH_ok (d := 0) (ext := []) (pts := c148_16_pts) (env := c148_16_e) rfl (fun _ h => (by cases h)) ext_nil (fun q h => (by cases h)) (enF c148_16_k) (fun _ h => (by cases h))

noncomputable def c148_17 : Ct := (148, 1, (13, [qtA 0, qtA 1, qtA 2], [], [qvR 0, qvK (.ofNat 440), qvK (.ofNat 6), qvK (.ofNat 6), qvS 0, qvS 1, qvS 2], zh63, []),
  [((13, [], [], [qvK (.ofNat 1)], [zc27, qiC 0 [qgN 1 3 3, qgN 5 0 0, .inl ((.ofNat 1), []), qgN 1 0 0, qgN 1 3 3, qgN 1 5 5, qgN 7 0 0, qgN 1 100 100, qgN 2 0 0, .inr (1, (.negSucc 0), (.negSucc 0)), qgN 21 0 0, qgN 1 1 1, qgN 39 0 0, qgN 1 1 1, qgN 39 0 0, qgN 1 1 1, qgN 39 0 0, qgN 1 1 1, qgN 277 0 0, .inl ((.ofNat 6), []), qgN 0 0 0, qgS 0, qgN 0 0 0, qgS 1, qgN 0 0 0, qgS 2, qgN 340 0 0, .inr (1, (.negSucc 99), (.negSucc 99)), qgN 1 100 100, .inr (1, (.negSucc 99), (.negSucc 99)), qgN 1 100 100, .inr (1, (.negSucc 99), (.negSucc 99)), qgN 1 100 100, .inr (1, (.negSucc 99), (.negSucc 99)), qgN 1 100 100, qgN 118 0 0], qkC 100 3, qkC 103 4, qkC 100 5, qkC 100 6, qkC 100 7, qjC 1 1000000070, qjC 1 1000000008, qkC 100 8, qkC 100 9, qkC 100 10, qkC 100 11, qkC 100 12, qjC 1 1000000004], []), 0, 0)])
noncomputable def c148_17_e : List Ct := []
noncomputable def c148_17_pts : List PE := []
set_option maxRecDepth 100000 in
theorem c148_17_k : enCtF c148_17 c148_17_e (pkP (c148_17_pts ++ []) []) (none) noH 3000 = true := by decide +kernel
set_option maxRecDepth 100000 in
theorem c148_17_v : ValidC PPk c148_17 := ct_ok fpk noH_ok (d := 0) (ext := []) (pts := c148_17_pts) (env := c148_17_e) rfl (fun _ h => (by cases h)) ext_nil (fun q h => (by cases h)) (enF c148_17_k) (fun _ h => (by cases h))

noncomputable def c148_18 : Ct := (148, 1, (13, [qtA 0, qtA 1, qtA 2], [], [qvR 0, qvK (.ofNat 440), qvK (.ofNat 6), qvK (.ofNat 7), qvS 0, qvS 1, qvS 2], zh63, []),
  [((13, [], [], [qvK (.ofNat 1)], [zc27, qiC 0 [qgN 1 3 3, qgN 5 0 0, .inl ((.ofNat 1), []), qgN 1 0 0, qgN 1 3 3, qgN 1 5 5, qgN 7 0 0, qgN 1 100 100, qgN 2 0 0, .inr (1, (.negSucc 0), (.negSucc 0)), qgN 21 0 0, qgN 1 1 1, qgN 39 0 0, qgN 1 1 1, qgN 39 0 0, qgN 1 1 1, qgN 39 0 0, qgN 1 1 1, qgN 277 0 0, .inl ((.ofNat 7), []), qgN 0 0 0, qgS 0, qgN 0 0 0, qgS 1, qgN 0 0 0, qgS 2, qgN 340 0 0, .inr (1, (.negSucc 99), (.negSucc 99)), qgN 1 100 100, .inr (1, (.negSucc 99), (.negSucc 99)), qgN 1 100 100, .inr (1, (.negSucc 99), (.negSucc 99)), qgN 1 100 100, .inr (1, (.negSucc 99), (.negSucc 99)), qgN 1 100 100, qgN 118 0 0], qkC 100 3, qkC 103 4, qkC 100 5, qkC 100 6, qkC 100 7, qjC 1 1000000070, qjC 1 1000000008, qkC 100 8, qkC 100 9, qkC 100 10, qkC 100 11, qkC 100 12, qjC 1 1000000004], []), 0, 0)])
noncomputable def c148_18_e : List Ct := []
noncomputable def c148_18_pts : List PE := []
set_option maxRecDepth 100000 in
theorem c148_18_k : enCtF c148_18 c148_18_e (pkP (c148_18_pts ++ []) []) (none) noH 3000 = true := by decide +kernel
set_option maxRecDepth 100000 in
theorem c148_18_v : ValidC PPk c148_18 := ct_ok fpk noH_ok (d := 0) (ext := []) (pts := c148_18_pts) (env := c148_18_e) rfl (fun _ h => (by cases h)) ext_nil (fun q h => (by cases h)) (enF c148_18_k) (fun _ h => (by cases h))

noncomputable def c148_19 : Ct := (148, 1, (13, [qtA 0, qtA 1, qtA 2], [], [qvR 0, qvK (.ofNat 440), qvK (.ofNat 6), qvK (.ofNat 8), qvS 0, qvS 1, qvS 2], zh63, []),
  [((13, [], [], [qvK (.ofNat 1)], [zc27, qiC 0 [qgN 1 3 3, qgN 5 0 0, .inl ((.ofNat 1), []), qgN 1 0 0, qgN 1 3 3, qgN 1 5 5, qgN 7 0 0, qgN 1 100 100, qgN 2 0 0, .inr (1, (.negSucc 0), (.negSucc 0)), qgN 21 0 0, qgN 1 1 1, qgN 39 0 0, qgN 1 1 1, qgN 39 0 0, qgN 1 1 1, qgN 39 0 0, qgN 1 1 1, qgN 277 0 0, .inl ((.ofNat 8), []), qgN 0 0 0, qgS 0, qgN 0 0 0, qgS 1, qgN 0 0 0, qgS 2, qgN 340 0 0, .inr (1, (.negSucc 99), (.negSucc 99)), qgN 1 100 100, .inr (1, (.negSucc 99), (.negSucc 99)), qgN 1 100 100, .inr (1, (.negSucc 99), (.negSucc 99)), qgN 1 100 100, .inr (1, (.negSucc 99), (.negSucc 99)), qgN 1 100 100, qgN 118 0 0], qkC 100 3, qkC 103 4, qkC 100 5, qkC 100 6, qkC 100 7, qjC 1 1000000070, qjC 1 1000000008, qkC 100 8, qkC 100 9, qkC 100 10, qkC 100 11, qkC 100 12, qjC 1 1000000004], []), 0, 0)])
noncomputable def c148_19_e : List Ct := []
noncomputable def c148_19_pts : List PE := []
set_option maxRecDepth 100000 in
theorem c148_19_k : enCtF c148_19 c148_19_e (pkP (c148_19_pts ++ []) []) (none) noH 3000 = true := by decide +kernel
set_option maxRecDepth 100000 in
theorem c148_19_v : ValidC PPk c148_19 := ct_ok fpk noH_ok (d := 0) (ext := []) (pts := c148_19_pts) (env := c148_19_e) rfl (fun _ h => (by cases h)) ext_nil (fun q h => (by cases h)) (enF c148_19_k) (fun _ h => (by cases h))

noncomputable def c148_20 : Ct := (148, 1, (13, [qtA 0, qtA 1, qtA 2], [], [qvR 0, qvK (.ofNat 440), qvK (.ofNat 6), qvK (.ofNat 9), qvS 0, qvS 1, qvS 2], zh63, []),
  [((13, [], [], [qvK (.ofNat 1)], [zc27, qiC 0 [qgN 1 3 3, qgN 5 0 0, .inl ((.ofNat 1), []), qgN 1 0 0, qgN 1 3 3, qgN 1 5 5, qgN 7 0 0, qgN 1 100 100, qgN 2 0 0, .inr (1, (.negSucc 0), (.negSucc 0)), qgN 21 0 0, qgN 1 1 1, qgN 39 0 0, qgN 1 1 1, qgN 39 0 0, qgN 1 1 1, qgN 39 0 0, qgN 1 1 1, qgN 277 0 0, .inl ((.ofNat 9), []), qgN 0 0 0, qgS 0, qgN 0 0 0, qgS 1, qgN 0 0 0, qgS 2, qgN 340 0 0, .inr (1, (.negSucc 99), (.negSucc 99)), qgN 1 100 100, .inr (1, (.negSucc 99), (.negSucc 99)), qgN 1 100 100, .inr (1, (.negSucc 99), (.negSucc 99)), qgN 1 100 100, .inr (1, (.negSucc 99), (.negSucc 99)), qgN 1 100 100, qgN 118 0 0], qkC 100 3, qkC 103 4, qkC 100 5, qkC 100 6, qkC 100 7, qjC 1 1000000070, qjC 1 1000000008, qkC 100 8, qkC 100 9, qkC 100 10, qkC 100 11, qkC 100 12, qjC 1 1000000004], []), 0, 0)])
noncomputable def c148_20_e : List Ct := []
noncomputable def c148_20_pts : List PE := []
set_option maxRecDepth 100000 in
theorem c148_20_k : enCtF c148_20 c148_20_e (pkP (c148_20_pts ++ []) []) (none) noH 3000 = true := by decide +kernel
set_option maxRecDepth 100000 in
theorem c148_20_v : ValidC PPk c148_20 := ct_ok fpk noH_ok (d := 0) (ext := []) (pts := c148_20_pts) (env := c148_20_e) rfl (fun _ h => (by cases h)) ext_nil (fun q h => (by cases h)) (enF c148_20_k) (fun _ h => (by cases h))

noncomputable def c148_21 : Ct := (148, 1, (13, [qtA 0, qtA 1, qtA 2], [], [qvR 0, qvK (.ofNat 440), qvK (.ofNat 6), qvK (.ofNat 10), qvS 0, qvS 1, qvS 2], zh63, []),
  [((13, [], [], [qvK (.ofNat 1)], [zc27, qiC 0 [qgN 1 3 3, qgN 5 0 0, .inl ((.ofNat 1), []), qgN 1 0 0, qgN 1 3 3, qgN 1 5 5, qgN 7 0 0, qgN 1 100 100, qgN 2 0 0, .inr (1, (.negSucc 0), (.negSucc 0)), qgN 21 0 0, qgN 1 1 1, qgN 39 0 0, qgN 1 1 1, qgN 39 0 0, qgN 1 1 1, qgN 39 0 0, qgN 1 1 1, qgN 277 0 0, .inl ((.ofNat 10), []), qgN 0 0 0, qgS 0, qgN 0 0 0, qgS 1, qgN 0 0 0, qgS 2, qgN 340 0 0, .inr (1, (.negSucc 99), (.negSucc 99)), qgN 1 100 100, .inr (1, (.negSucc 99), (.negSucc 99)), qgN 1 100 100, .inr (1, (.negSucc 99), (.negSucc 99)), qgN 1 100 100, .inr (1, (.negSucc 99), (.negSucc 99)), qgN 1 100 100, qgN 118 0 0], qkC 100 3, qkC 103 4, qkC 100 5, qkC 100 6, qkC 100 7, qjC 1 1000000070, qjC 1 1000000008, qkC 100 8, qkC 100 9, qkC 100 10, qkC 100 11, qkC 100 12, qjC 1 1000000004], []), 0, 0)])
noncomputable def c148_21_e : List Ct := []
noncomputable def c148_21_pts : List PE := []
set_option maxRecDepth 100000 in
theorem c148_21_k : enCtF c148_21 c148_21_e (pkP (c148_21_pts ++ []) []) (none) noH 3000 = true := by decide +kernel
set_option maxRecDepth 100000 in
theorem c148_21_v : ValidC PPk c148_21 := ct_ok fpk noH_ok (d := 0) (ext := []) (pts := c148_21_pts) (env := c148_21_e) rfl (fun _ h => (by cases h)) ext_nil (fun q h => (by cases h)) (enF c148_21_k) (fun _ h => (by cases h))

noncomputable def c203_0 : Ct := (203, 3, (4, [qtA 0, qtA 1, qtA 2, qtA 3], [], [qvR 0, qvS 0, qvS 1, qvS 2, qvS 3], zh29, []),
  [((4, [(0, (.negSucc 2147483647), (.negSucc 0))], [], [qvK (.negSucc 1)], zh29, []), 0, 0),
   ((4, [qtN 0 11 2147483647], [], [qvK (.negSucc 1)], zh29, []), 0, 0),
   ((4, [qtN 0 0 10, (1, (.negSucc 2147483647), (.negSucc 0))], [], [qvK (.negSucc 1)], zh29, []), 0, 0),
   ((4, [qtN 0 0 10, qtN 1 12 2147483647], [], [qvK (.negSucc 1)], zh29, []), 0, 0),
   ((4, [qtN 0 0 0, qtN 1 0 11], [], [qvK (.ofNat 1)], [zc27, qiC 0 [qgN 1 3 3, qgN 5 0 0, .inl ((.ofNat 1), []), qgN 1 0 0, qgN 1 3 3, qgN 1 5 5, qgN 7 0 0, qgN 1 100 100, qgN 2 0 0, .inr (1, (.negSucc 0), (.negSucc 0)), qgN 21 0 0, qgN 1 1 1, qgN 39 0 0, qgN 1 1 1, qgN 39 0 0, qgN 1 1 1, qgN 39 0 0, qgN 1 1 1, qgN 278 0 0, qgS 1, qgN 0 0 0, qgS 2, qgN 0 0 0, qgS 3, qgN 340 0 0, .inr (1, (.negSucc 99), (.negSucc 99)), qgN 1 100 100, .inr (1, (.negSucc 99), (.negSucc 99)), qgN 1 100 100, .inr (1, (.negSucc 99), (.negSucc 99)), qgN 1 100 100, .inr (1, (.negSucc 99), (.negSucc 99)), qgN 1 100 100, qgN 118 0 0], qiC 0 [qgN 1820 0 0], qiC 3 [qgN 2 0 0], qiC 0 [qgN 70 0 0], qiC 0 [qgN 70 0 0], qiC 0 [qgN 70 0 0], qjC 1 1000000070, qjC 1 1000000008, qiC 0 [qgN 910 0 0], qiC 0 [qgN 910 0 0], qiC 0 [qgN 20 0 0], qiC 0 [qgN 20 0 0], qiC 0 [qgN 910 0 0], qjC 1 1000000004], []), 0, 0),
   ((4, [qtN 0 1 1, qtN 1 0 11, (2, (.negSucc 2147483647), (.negSucc 0))], [], [qvK (.negSucc 1)], zh29, []), 0, 0),
   ((4, [qtN 0 1 1, qtN 1 0 11, qtN 2 12 2147483647], [], [qvK (.negSucc 1)], zh29, []), 0, 0),
   ((4, [qtN 0 1 1, qtN 1 0 11, qtN 2 0 11, (3, (.negSucc 2147483647), (.negSucc 0))], [], [qvK (.negSucc 1)], zh29, []), 0, 0),
   ((4, [qtN 0 1 1, qtN 1 0 11, qtN 2 0 11, qtN 3 12 2147483647], [], [qvK (.negSucc 1)], zh29, []), 0, 0),
   ((4, [qtN 0 1 1, qtN 1 0 11, qtN 2 0 11, qtN 3 0 11], [], [qvK (.ofNat 1)], [zc27, qiC 0 [qgN 1 3 3, qgN 5 0 0, .inl ((.ofNat 1), []), qgN 1 0 0, qgN 1 3 3, qgN 1 5 5, qgN 7 0 0, qgN 1 100 100, qgN 2 0 0, .inr (1, (.negSucc 0), (.negSucc 0)), qgN 21 0 0, qgN 1 1 1, qgN 39 0 0, qgN 1 1 1, qgN 39 0 0, qgN 1 1 1, qgN 39 0 0, qgN 1 1 1, qgN 277 0 0, .inl ((.ofNat 1), []), qgN 0 0 0, qgS 1, qgN 0 0 0, qgS 2, qgN 0 0 0, qgS 3, qgN 340 0 0, .inr (1, (.negSucc 99), (.negSucc 99)), qgN 1 100 100, .inr (1, (.negSucc 99), (.negSucc 99)), qgN 1 100 100, .inr (1, (.negSucc 99), (.negSucc 99)), qgN 1 100 100, .inr (1, (.negSucc 99), (.negSucc 99)), qgN 1 100 100, qgN 118 0 0], qiC 0 [qgN 1820 0 0], qiC 3 [qgN 2 0 0], qiC 0 [qgN 70 0 0], qiC 0 [qgN 70 0 0], qiC 0 [qgN 70 0 0], qjC 1 1000000070, qjC 1 1000000008, qiC 0 [qgN 910 0 0], qiC 0 [qgN 910 0 0], qiC 0 [qgN 20 0 0], qiC 0 [qgN 20 0 0], qiC 0 [qgN 910 0 0], qjC 1 1000000004], []), 0, 0),
   ((4, [qtN 0 2 2, qtN 1 0 11, (2, (.negSucc 2147483647), (.negSucc 0))], [], [qvK (.negSucc 1)], zh29, []), 0, 0),
   ((4, [qtN 0 2 2, qtN 1 0 11, qtN 2 12 2147483647], [], [qvK (.negSucc 1)], zh29, []), 0, 0),
   ((4, [qtN 0 2 2, qtN 1 0 11, qtN 2 0 11, (3, (.negSucc 2147483647), (.negSucc 0))], [], [qvK (.negSucc 1)], zh29, []), 0, 0),
   ((4, [qtN 0 2 2, qtN 1 0 11, qtN 2 0 11, qtN 3 12 2147483647], [], [qvK (.negSucc 1)], zh29, []), 0, 0),
   ((4, [qtN 0 2 2, qtN 1 0 11, qtN 2 0 11, qtN 3 0 11], [], [qvK (.ofNat 1)], [zc27, qiC 0 [qgN 1 3 3, qgN 5 0 0, .inl ((.ofNat 1), []), qgN 1 0 0, qgN 1 3 3, qgN 1 5 5, qgN 7 0 0, qgN 1 100 100, qgN 2 0 0, .inr (1, (.negSucc 0), (.negSucc 0)), qgN 21 0 0, qgN 1 1 1, qgN 39 0 0, qgN 1 1 1, qgN 39 0 0, qgN 1 1 1, qgN 39 0 0, qgN 1 1 1, qgN 277 0 0, .inl ((.ofNat 2), []), qgN 0 0 0, qgS 1, qgN 0 0 0, qgS 2, qgN 0 0 0, qgS 3, qgN 340 0 0, .inr (1, (.negSucc 99), (.negSucc 99)), qgN 1 100 100, .inr (1, (.negSucc 99), (.negSucc 99)), qgN 1 100 100, .inr (1, (.negSucc 99), (.negSucc 99)), qgN 1 100 100, .inr (1, (.negSucc 99), (.negSucc 99)), qgN 1 100 100, qgN 118 0 0], qiC 0 [qgN 1820 0 0], qiC 3 [qgN 2 0 0], qiC 0 [qgN 70 0 0], qiC 0 [qgN 70 0 0], qiC 0 [qgN 70 0 0], qjC 1 1000000070, qjC 1 1000000008, qiC 0 [qgN 910 0 0], qiC 0 [qgN 910 0 0], qiC 0 [qgN 20 0 0], qiC 0 [qgN 20 0 0], qiC 0 [qgN 910 0 0], qjC 1 1000000004], []), 0, 0),
   ((4, [qtN 0 3 3, qtN 1 0 11, (2, (.negSucc 2147483647), (.negSucc 0))], [], [qvK (.negSucc 1)], zh29, []), 0, 0),
   ((4, [qtN 0 3 3, qtN 1 0 11, qtN 2 12 2147483647], [], [qvK (.negSucc 1)], zh29, []), 0, 0),
   ((4, [qtN 0 3 3, qtN 1 0 11, qtN 2 0 11, (3, (.negSucc 2147483647), (.negSucc 0))], [], [qvK (.negSucc 1)], zh29, []), 0, 0),
   ((4, [qtN 0 3 3, qtN 1 0 11, qtN 2 0 11, qtN 3 12 2147483647], [], [qvK (.negSucc 1)], zh29, []), 0, 0),
   ((4, [qtN 0 3 3, qtN 1 0 11, qtN 2 0 11, qtN 3 0 11], [], [qvK (.ofNat 1)], [zc27, qiC 0 [qgN 1 3 3, qgN 5 0 0, .inl ((.ofNat 1), []), qgN 1 0 0, qgN 1 3 3, qgN 1 5 5, qgN 7 0 0, qgN 1 100 100, qgN 2 0 0, .inr (1, (.negSucc 0), (.negSucc 0)), qgN 21 0 0, qgN 1 1 1, qgN 39 0 0, qgN 1 1 1, qgN 39 0 0, qgN 1 1 1, qgN 39 0 0, qgN 1 1 1, qgN 277 0 0, .inl ((.ofNat 3), []), qgN 0 0 0, qgS 1, qgN 0 0 0, qgS 2, qgN 0 0 0, qgS 3, qgN 340 0 0, .inr (1, (.negSucc 99), (.negSucc 99)), qgN 1 100 100, .inr (1, (.negSucc 99), (.negSucc 99)), qgN 1 100 100, .inr (1, (.negSucc 99), (.negSucc 99)), qgN 1 100 100, .inr (1, (.negSucc 99), (.negSucc 99)), qgN 1 100 100, qgN 118 0 0], qiC 0 [qgN 1820 0 0], qiC 3 [qgN 2 0 0], qiC 0 [qgN 70 0 0], qiC 0 [qgN 70 0 0], qiC 0 [qgN 70 0 0], qjC 1 1000000070, qjC 1 1000000008, qiC 0 [qgN 910 0 0], qiC 0 [qgN 910 0 0], qiC 0 [qgN 20 0 0], qiC 0 [qgN 20 0 0], qiC 0 [qgN 910 0 0], qjC 1 1000000004], []), 0, 0),
   ((4, [qtN 0 4 4, qtN 1 0 11, (2, (.negSucc 2147483647), (.negSucc 0))], [], [qvK (.negSucc 1)], zh29, []), 0, 0),
   ((4, [qtN 0 4 4, qtN 1 0 11, qtN 2 12 2147483647], [], [qvK (.negSucc 1)], zh29, []), 0, 0),
   ((4, [qtN 0 4 4, qtN 1 0 11, qtN 2 0 11, (3, (.negSucc 2147483647), (.negSucc 0))], [], [qvK (.negSucc 1)], zh29, []), 0, 0),
   ((4, [qtN 0 4 4, qtN 1 0 11, qtN 2 0 11, qtN 3 12 2147483647], [], [qvK (.negSucc 1)], zh29, []), 0, 0),
   ((4, [qtN 0 4 4, qtN 1 0 11, qtN 2 0 11, qtN 3 0 11], [], [qvK (.ofNat 1)], [zc27, qiC 0 [qgN 1 3 3, qgN 5 0 0, .inl ((.ofNat 1), []), qgN 1 0 0, qgN 1 3 3, qgN 1 5 5, qgN 7 0 0, qgN 1 100 100, qgN 2 0 0, .inr (1, (.negSucc 0), (.negSucc 0)), qgN 21 0 0, qgN 1 1 1, qgN 39 0 0, qgN 1 1 1, qgN 39 0 0, qgN 1 1 1, qgN 39 0 0, qgN 1 1 1, qgN 277 0 0, .inl ((.ofNat 4), []), qgN 0 0 0, qgS 1, qgN 0 0 0, qgS 2, qgN 0 0 0, qgS 3, qgN 340 0 0, .inr (1, (.negSucc 99), (.negSucc 99)), qgN 1 100 100, .inr (1, (.negSucc 99), (.negSucc 99)), qgN 1 100 100, .inr (1, (.negSucc 99), (.negSucc 99)), qgN 1 100 100, .inr (1, (.negSucc 99), (.negSucc 99)), qgN 1 100 100, qgN 118 0 0], qiC 0 [qgN 1820 0 0], qiC 3 [qgN 2 0 0], qiC 0 [qgN 70 0 0], qiC 0 [qgN 70 0 0], qiC 0 [qgN 70 0 0], qjC 1 1000000070, qjC 1 1000000008, qiC 0 [qgN 910 0 0], qiC 0 [qgN 910 0 0], qiC 0 [qgN 20 0 0], qiC 0 [qgN 20 0 0], qiC 0 [qgN 910 0 0], qjC 1 1000000004], []), 0, 0),
   ((4, [qtN 0 5 5, qtN 1 0 11, (2, (.negSucc 2147483647), (.negSucc 0))], [], [qvK (.negSucc 1)], zh29, []), 0, 0),
   ((4, [qtN 0 5 5, qtN 1 0 11, qtN 2 12 2147483647], [], [qvK (.negSucc 1)], zh29, []), 0, 0),
   ((4, [qtN 0 5 5, qtN 1 0 11, qtN 2 0 11, (3, (.negSucc 2147483647), (.negSucc 0))], [], [qvK (.negSucc 1)], zh29, []), 0, 0),
   ((4, [qtN 0 5 5, qtN 1 0 11, qtN 2 0 11, qtN 3 12 2147483647], [], [qvK (.negSucc 1)], zh29, []), 0, 0),
   ((4, [qtN 0 5 5, qtN 1 0 11, qtN 2 0 11, qtN 3 0 11], [], [qvK (.ofNat 1)], [zc27, qiC 0 [qgN 1 3 3, qgN 5 0 0, .inl ((.ofNat 1), []), qgN 1 0 0, qgN 1 3 3, qgN 1 5 5, qgN 7 0 0, qgN 1 100 100, qgN 2 0 0, .inr (1, (.negSucc 0), (.negSucc 0)), qgN 21 0 0, qgN 1 1 1, qgN 39 0 0, qgN 1 1 1, qgN 39 0 0, qgN 1 1 1, qgN 39 0 0, qgN 1 1 1, qgN 277 0 0, .inl ((.ofNat 5), []), qgN 0 0 0, qgS 1, qgN 0 0 0, qgS 2, qgN 0 0 0, qgS 3, qgN 340 0 0, .inr (1, (.negSucc 99), (.negSucc 99)), qgN 1 100 100, .inr (1, (.negSucc 99), (.negSucc 99)), qgN 1 100 100, .inr (1, (.negSucc 99), (.negSucc 99)), qgN 1 100 100, .inr (1, (.negSucc 99), (.negSucc 99)), qgN 1 100 100, qgN 118 0 0], qiC 0 [qgN 1820 0 0], qiC 3 [qgN 2 0 0], qiC 0 [qgN 70 0 0], qiC 0 [qgN 70 0 0], qiC 0 [qgN 70 0 0], qjC 1 1000000070, qjC 1 1000000008, qiC 0 [qgN 910 0 0], qiC 0 [qgN 910 0 0], qiC 0 [qgN 20 0 0], qiC 0 [qgN 20 0 0], qiC 0 [qgN 910 0 0], qjC 1 1000000004], []), 0, 0),
   ((4, [qtN 0 6 6, qtN 1 0 11, (2, (.negSucc 2147483647), (.negSucc 0))], [], [qvK (.negSucc 1)], zh29, []), 0, 0),
   ((4, [qtN 0 6 6, qtN 1 0 11, qtN 2 12 2147483647], [], [qvK (.negSucc 1)], zh29, []), 0, 0),
   ((4, [qtN 0 6 6, qtN 1 0 11, qtN 2 0 11, (3, (.negSucc 2147483647), (.negSucc 0))], [], [qvK (.negSucc 1)], zh29, []), 0, 0),
   ((4, [qtN 0 6 6, qtN 1 0 11, qtN 2 0 11, qtN 3 12 2147483647], [], [qvK (.negSucc 1)], zh29, []), 0, 0),
   ((4, [qtN 0 6 6, qtN 1 0 11, qtN 2 0 11, qtN 3 0 11], [], [qvK (.ofNat 1)], [zc27, qiC 0 [qgN 1 3 3, qgN 5 0 0, .inl ((.ofNat 1), []), qgN 1 0 0, qgN 1 3 3, qgN 1 5 5, qgN 7 0 0, qgN 1 100 100, qgN 2 0 0, .inr (1, (.negSucc 0), (.negSucc 0)), qgN 21 0 0, qgN 1 1 1, qgN 39 0 0, qgN 1 1 1, qgN 39 0 0, qgN 1 1 1, qgN 39 0 0, qgN 1 1 1, qgN 277 0 0, .inl ((.ofNat 6), []), qgN 0 0 0, qgS 1, qgN 0 0 0, qgS 2, qgN 0 0 0, qgS 3, qgN 340 0 0, .inr (1, (.negSucc 99), (.negSucc 99)), qgN 1 100 100, .inr (1, (.negSucc 99), (.negSucc 99)), qgN 1 100 100, .inr (1, (.negSucc 99), (.negSucc 99)), qgN 1 100 100, .inr (1, (.negSucc 99), (.negSucc 99)), qgN 1 100 100, qgN 118 0 0], qiC 0 [qgN 1820 0 0], qiC 3 [qgN 2 0 0], qiC 0 [qgN 70 0 0], qiC 0 [qgN 70 0 0], qiC 0 [qgN 70 0 0], qjC 1 1000000070, qjC 1 1000000008, qiC 0 [qgN 910 0 0], qiC 0 [qgN 910 0 0], qiC 0 [qgN 20 0 0], qiC 0 [qgN 20 0 0], qiC 0 [qgN 910 0 0], qjC 1 1000000004], []), 0, 0),
   ((4, [qtN 0 7 7, qtN 1 0 11, (2, (.negSucc 2147483647), (.ofNat 0))], [], [qvK (.negSucc 1)], zh29, []), 0, 0),
   ((4, [qtN 0 7 7, qtN 1 0 11, qtN 2 21 2147483647], [], [qvK (.negSucc 1)], zh29, []), 0, 0),
   ((4, [qtN 0 7 7, qtN 1 0 11, qtN 2 1 20], [], [qvK (.ofNat 1)], [zc27, qiC 0 [qgN 1 3 3, qgN 5 0 0, .inl ((.ofNat 1), []), qgN 1 0 0, qgN 1 3 3, qgN 1 5 5, qgN 7 0 0, qgN 1 100 100, qgN 2 0 0, .inr (1, (.negSucc 0), (.negSucc 0)), qgN 21 0 0, qgN 1 1 1, qgN 39 0 0, qgN 1 1 1, qgN 39 0 0, qgN 1 1 1, qgN 39 0 0, qgN 1 1 1, qgN 277 0 0, .inl ((.ofNat 7), []), qgN 0 0 0, qgS 1, qgN 0 0 0, qgS 2, qgN 0 0 0, qgS 3, qgN 340 0 0, .inr (1, (.negSucc 99), (.negSucc 99)), qgN 1 100 100, .inr (1, (.negSucc 99), (.negSucc 99)), qgN 1 100 100, .inr (1, (.negSucc 99), (.negSucc 99)), qgN 1 100 100, .inr (1, (.negSucc 99), (.negSucc 99)), qgN 1 100 100, qgN 118 0 0], qiC 0 [qgN 1820 0 0], qiC 3 [qgN 2 0 0], qiC 0 [qgN 70 0 0], qiC 0 [qgN 70 0 0], qiC 0 [qgN 70 0 0], qjC 1 1000000070, qjC 1 1000000008, qiC 0 [qgN 910 0 0], qiC 0 [qgN 910 0 0], qiC 0 [qgN 20 0 0], qiC 0 [qgN 20 0 0], qiC 0 [qgN 910 0 0], qjC 1 1000000004], []), 0, 0),
   ((4, [qtN 0 8 8, qtN 1 0 11, (2, (.negSucc 2147483647), (.negSucc 0))], [], [qvK (.negSucc 1)], zh29, []), 0, 0),
   ((4, [qtN 0 8 8, qtN 1 0 11, qtN 2 2 2147483647], [], [qvK (.negSucc 1)], zh29, []), 0, 0),
   ((4, [qtN 0 8 8, qtN 1 0 11, qtN 2 0 1], [], [qvK (.ofNat 1)], [zc27, qiC 0 [qgN 1 3 3, qgN 5 0 0, .inl ((.ofNat 1), []), qgN 1 0 0, qgN 1 3 3, qgN 1 5 5, qgN 7 0 0, qgN 1 100 100, qgN 2 0 0, .inr (1, (.negSucc 0), (.negSucc 0)), qgN 21 0 0, qgN 1 1 1, qgN 39 0 0, qgN 1 1 1, qgN 39 0 0, qgN 1 1 1, qgN 39 0 0, qgN 1 1 1, qgN 277 0 0, .inl ((.ofNat 8), []), qgN 0 0 0, qgS 1, qgN 0 0 0, qgS 2, qgN 0 0 0, qgS 3, qgN 340 0 0, .inr (1, (.negSucc 99), (.negSucc 99)), qgN 1 100 100, .inr (1, (.negSucc 99), (.negSucc 99)), qgN 1 100 100, .inr (1, (.negSucc 99), (.negSucc 99)), qgN 1 100 100, .inr (1, (.negSucc 99), (.negSucc 99)), qgN 1 100 100, qgN 118 0 0], qiC 0 [qgN 1820 0 0], qiC 3 [qgN 2 0 0], qiC 0 [qgN 70 0 0], qiC 0 [qgN 70 0 0], qiC 0 [qgN 70 0 0], qjC 1 1000000070, qjC 1 1000000008, qiC 0 [qgN 910 0 0], qiC 0 [qgN 910 0 0], qiC 0 [qgN 20 0 0], qiC 0 [qgN 20 0 0], qiC 0 [qgN 910 0 0], qjC 1 1000000004], []), 0, 0),
   ((4, [qtN 0 9 9, qtN 1 0 11, (2, (.negSucc 2147483647), (.negSucc 0))], [], [qvK (.negSucc 1)], zh29, []), 0, 0),
   ((4, [qtN 0 9 9, qtN 1 0 11, qtN 2 8 2147483647], [], [qvK (.negSucc 1)], zh29, []), 0, 0),
   ((4, [qtN 0 9 9, qtN 1 0 11, qtN 2 0 7], [], [qvK (.ofNat 1)], [zc27, qiC 0 [qgN 1 3 3, qgN 5 0 0, .inl ((.ofNat 1), []), qgN 1 0 0, qgN 1 3 3, qgN 1 5 5, qgN 7 0 0, qgN 1 100 100, qgN 2 0 0, .inr (1, (.negSucc 0), (.negSucc 0)), qgN 21 0 0, qgN 1 1 1, qgN 39 0 0, qgN 1 1 1, qgN 39 0 0, qgN 1 1 1, qgN 39 0 0, qgN 1 1 1, qgN 277 0 0, .inl ((.ofNat 9), []), qgN 0 0 0, qgS 1, qgN 0 0 0, qgS 2, qgN 0 0 0, qgS 3, qgN 340 0 0, .inr (1, (.negSucc 99), (.negSucc 99)), qgN 1 100 100, .inr (1, (.negSucc 99), (.negSucc 99)), qgN 1 100 100, .inr (1, (.negSucc 99), (.negSucc 99)), qgN 1 100 100, .inr (1, (.negSucc 99), (.negSucc 99)), qgN 1 100 100, qgN 118 0 0], qiC 0 [qgN 1820 0 0], qiC 3 [qgN 2 0 0], qiC 0 [qgN 70 0 0], qiC 0 [qgN 70 0 0], qiC 0 [qgN 70 0 0], qjC 1 1000000070, qjC 1 1000000008, qiC 0 [qgN 910 0 0], qiC 0 [qgN 910 0 0], qiC 0 [qgN 20 0 0], qiC 0 [qgN 20 0 0], qiC 0 [qgN 910 0 0], qjC 1 1000000004], []), 0, 0),
   ((4, [qtN 0 10 10, qtN 1 0 11, (2, (.negSucc 2147483647), (.ofNat 0))], [], [qvK (.negSucc 1)], zh29, []), 0, 0),
   ((4, [qtN 0 10 10, qtN 1 0 11, qtN 2 21 2147483647], [], [qvK (.negSucc 1)], zh29, []), 0, 0),
   ((4, [qtN 0 10 10, qtN 1 0 11, qtN 2 1 20], [], [qvK (.ofNat 1)], [zc27, qiC 0 [qgN 1 3 3, qgN 5 0 0, .inl ((.ofNat 1), []), qgN 1 0 0, qgN 1 3 3, qgN 1 5 5, qgN 7 0 0, qgN 1 100 100, qgN 2 0 0, .inr (1, (.negSucc 0), (.negSucc 0)), qgN 21 0 0, qgN 1 1 1, qgN 39 0 0, qgN 1 1 1, qgN 39 0 0, qgN 1 1 1, qgN 39 0 0, qgN 1 1 1, qgN 277 0 0, .inl ((.ofNat 10), []), qgN 0 0 0, qgS 1, qgN 0 0 0, qgS 2, qgN 0 0 0, qgS 3, qgN 340 0 0, .inr (1, (.negSucc 99), (.negSucc 99)), qgN 1 100 100, .inr (1, (.negSucc 99), (.negSucc 99)), qgN 1 100 100, .inr (1, (.negSucc 99), (.negSucc 99)), qgN 1 100 100, .inr (1, (.negSucc 99), (.negSucc 99)), qgN 1 100 100, qgN 118 0 0], qiC 0 [qgN 1820 0 0], qiC 3 [qgN 2 0 0], qiC 0 [qgN 70 0 0], qiC 0 [qgN 70 0 0], qiC 0 [qgN 70 0 0], qjC 1 1000000070, qjC 1 1000000008, qiC 0 [qgN 910 0 0], qiC 0 [qgN 910 0 0], qiC 0 [qgN 20 0 0], qiC 0 [qgN 20 0 0], qiC 0 [qgN 910 0 0], qjC 1 1000000004], []), 0, 0)])
noncomputable def c203_0_e : List Ct := [c147_0, c148_11, c148_12, c148_13, c148_14, c148_15, c148_16, c148_17, c148_18, c148_19, c148_20, c148_21]
noncomputable def c203_0_pts : List PE := []
set_option maxRecDepth 100000 in
theorem c203_0_k : enCtF c203_0 c203_0_e (pkP (c203_0_pts ++ []) []) (none) noH 3000 = true := by decide +kernel
set_option maxRecDepth 100000 in
theorem c203_0_v : ValidC PPk c203_0 := ct_ok fpk noH_ok (d := 2) (ext := []) (pts := c203_0_pts) (env := c203_0_e) rfl (List.forall_mem_cons.mpr ⟨⟨c147_0_v, Nat.le_of_ble_eq_true rfl⟩, List.forall_mem_cons.mpr ⟨⟨c148_11_v, Nat.le_of_ble_eq_true rfl⟩, List.forall_mem_cons.mpr ⟨⟨c148_12_v, Nat.le_of_ble_eq_true rfl⟩, List.forall_mem_cons.mpr ⟨⟨c148_13_v, Nat.le_of_ble_eq_true rfl⟩, List.forall_mem_cons.mpr ⟨⟨c148_14_v, Nat.le_of_ble_eq_true rfl⟩, List.forall_mem_cons.mpr ⟨⟨c148_15_v, Nat.le_of_ble_eq_true rfl⟩, List.forall_mem_cons.mpr ⟨⟨c148_16_v, Nat.le_of_ble_eq_true rfl⟩, List.forall_mem_cons.mpr ⟨⟨c148_17_v, Nat.le_of_ble_eq_true rfl⟩, List.forall_mem_cons.mpr ⟨⟨c148_18_v, Nat.le_of_ble_eq_true rfl⟩, List.forall_mem_cons.mpr ⟨⟨c148_19_v, Nat.le_of_ble_eq_true rfl⟩, List.forall_mem_cons.mpr ⟨⟨c148_20_v, Nat.le_of_ble_eq_true rfl⟩, List.forall_mem_cons.mpr ⟨⟨c148_21_v, Nat.le_of_ble_eq_true rfl⟩, fun _ h => (by cases h)⟩⟩⟩⟩⟩⟩⟩⟩⟩⟩⟩⟩) ext_nil (fun q h => (by cases h)) (enF c203_0_k) (fun _ h => (by cases h))

noncomputable def c97_0 : Ct := (97, 1, (0, [], [], [qvR 0], zh43, []),
  [((0, [], [], [qvK (.ofNat 0)], zh43, []), 0, 0)])
noncomputable def c97_0_e : List Ct := []
noncomputable def c97_0_pts : List PE := []
set_option maxRecDepth 100000 in
theorem c97_0_k : enCtF c97_0 c97_0_e (pkP (c97_0_pts ++ []) []) (none) noH 3000 = true := by decide +kernel
set_option maxRecDepth 100000 in
theorem c97_0_v : ValidC PPk c97_0 := ct_ok fpk noH_ok (d := 0) (ext := []) (pts := c97_0_pts) (env := c97_0_e) rfl (fun _ h => (by cases h)) ext_nil (fun q h => (by cases h)) (enF c97_0_k) (fun _ h => (by cases h))

noncomputable def c204_0 : Ct := (204, 1, (0, [], [], [qvR 0], zh29, []),
  [((0, [], [], [qvK (.ofNat 0)], zh29, []), 0, 0)])
noncomputable def c204_0_e : List Ct := []
noncomputable def c204_0_pts : List PE := []
set_option maxRecDepth 100000 in
theorem c204_0_k : enCtF c204_0 c204_0_e (pkP (c204_0_pts ++ []) []) (none) noH 3000 = true := by decide +kernel
set_option maxRecDepth 100000 in
theorem c204_0_v : ValidC PPk c204_0 := ct_ok fpk noH_ok (d := 0) (ext := []) (pts := c204_0_pts) (env := c204_0_e) rfl (fun _ h => (by cases h)) ext_nil (fun q h => (by cases h)) (enF c204_0_k) (fun _ h => (by cases h))

noncomputable def zh127 : AH := [zc7, qkC 100 0, qkC 100 1, qkC 100 2, qkC 100 3]
noncomputable def c99_0 : Ct := (99, 1, (4, [], [], [qvR 0], zh127, []),
  [((4, [], [], [qvK (.ofNat 527)], zh127, []), 0, 0)])
noncomputable def c99_0_e : List Ct := []
noncomputable def c99_0_p0 : PE := (5, [0, 1, 2], (4, [], [], [qvR 0, qvK (.ofNat 17), qvK (.ofNat 0)], zh127, []), symsL 4 0, some ((.ofNat 1), []), 0, 0)
noncomputable def c99_0_pts : List PE := [c99_0_p0]
set_option maxRecDepth 100000 in
theorem c99_0_k : enCtF c99_0 c99_0_e (pkP (c99_0_pts ++ []) [0]) (none) (noF, noM, 32, 0, 4) 3000 = true := by decide +kernel
set_option maxRecDepth 100000 in
theorem c99_0_k0 : ptCtF c99_0 c99_0_e (pkP (c99_0_pts ++ []) []) (noF, noM, 32, 0, 4) 3000 c99_0_p0 = true := by decide +kernel
set_option maxRecDepth 100000 in
theorem c99_0_v : ValidC PPk c99_0 := ct_ok fpk ⟨noF_ok, noM_ok⟩ (d := 0) (ext := []) (pts := c99_0_pts) (env := c99_0_e) rfl (fun _ h => (by cases h)) ext_nil (fun q h => (by cases h)) (enF c99_0_k) (List.forall_mem_cons.mpr ⟨⟨_, ptF c99_0_k0⟩, fun _ h => (by cases h)⟩)

noncomputable def c98_0 : Ct := (98, 2, (1, [qtA 0], [], [qvR 0, qvS 0], zh43, []),
  [((1, [(0, (.negSucc 2147483647), (.negSucc 0))], [], [qvK (.ofNat 0)], zh43, []), 0, 0),
   ((1, [qtN 0 2 2147483647], [], [qvK (.ofNat 0)], zh43, []), 0, 0),
   ((1, [qtN 0 1 1], [], [qvK (.ofNat 527)], zh43, []), 0, 0),
   ((1, [qtN 0 0 0], [], [qvK (.ofNat 527)], zh43, []), 0, 0)])
noncomputable def c98_0_e : List Ct := [c12_4, c99_0]
noncomputable def c98_0_pts : List PE := []
set_option maxRecDepth 100000 in
theorem c98_0_k : enCtF c98_0 c98_0_e (pkP (c98_0_pts ++ []) []) (none) noH 3000 = true := by decide +kernel
set_option maxRecDepth 100000 in
theorem c98_0_v : ValidC PPk c98_0 := ct_ok fpk noH_ok (d := 1) (ext := []) (pts := c98_0_pts) (env := c98_0_e) rfl (List.forall_mem_cons.mpr ⟨⟨c12_4_v, Nat.le_of_ble_eq_true rfl⟩, List.forall_mem_cons.mpr ⟨⟨c99_0_v, Nat.le_of_ble_eq_true rfl⟩, fun _ h => (by cases h)⟩⟩) ext_nil (fun q h => (by cases h)) (enF c98_0_k) (fun _ h => (by cases h))

noncomputable def zh128 : AH := [zc27, zc62, qkC 100 1, qkC 103 2, qkC 100 3, qkC 100 4, qkC 100 5, qjC 1 1000000070, qjC 1 1000000008, qkC 100 6, qkC 100 7, qkC 100 8, qkC 100 9, qkC 100 10, qjC 1 1000000004]
noncomputable def c206_0 : Ct := (206, 1, (11, [qtA 0], [], [qvR 0, qvS 0], zh128, []),
  [((11, [], [], [qvK (.ofNat 527)], zh128, []), 0, 0)])
noncomputable def c206_0_e : List Ct := []
noncomputable def c206_0_p0 : PE := (42, [0, 1, 2, 3, 4, 5], (12, [qtA 0, qtN 11 200 440], [], [qvR 0, qvS 0, qvK (.ofNat 0), qvS 11, qvK (.ofNat 17), qvK (.ofNat 0)], zh128, []), symsL 11 0, some ((.ofNat 1), []), 0, 0)
noncomputable def c206_0_pts : List PE := [c206_0_p0]
set_option maxRecDepth 100000 in
theorem c206_0_k : enCtF c206_0 c206_0_e (pkP (c206_0_pts ++ []) [0]) (none) (noF, noM, 4398046511104, 0, 11) 3000 = true := by decide +kernel
set_option maxRecDepth 100000 in
theorem c206_0_k0 : ptCtF c206_0 c206_0_e (pkP (c206_0_pts ++ []) []) (noF, noM, 4398046511104, 0, 11) 3000 c206_0_p0 = true := by decide +kernel
set_option maxRecDepth 100000 in
theorem c206_0_v : ValidC PPk c206_0 := ct_ok fpk ⟨noF_ok, noM_ok⟩ (d := 0) (ext := []) (pts := c206_0_pts) (env := c206_0_e) rfl (fun _ h => (by cases h)) ext_nil (fun q h => (by cases h)) (enF c206_0_k) (List.forall_mem_cons.mpr ⟨⟨_, ptF c206_0_k0⟩, fun _ h => (by cases h)⟩)

noncomputable def zh129 : AH := [zc27, zc62, qiC 0 [qgN 1820 0 0], qiC 3 [qgN 2 0 0], qiC 0 [qgN 70 0 0], qiC 0 [qgN 70 0 0], qiC 0 [qgN 70 0 0], qjC 1 1000000070, qjC 1 1000000008, qiC 0 [qgN 910 0 0], qiC 0 [qgN 910 0 0], qiC 0 [qgN 20 0 0], qiC 0 [qgN 20 0 0], qiC 0 [qgN 910 0 0], qjC 1 1000000004]
noncomputable def c205_0 : Ct := (205, 2, (1, [qtA 0], [], [qvR 0, qvS 0], zh29, []),
  [((1, [(0, (.negSucc 2147483647), (.negSucc 0))], [], [qvK (.ofNat 0)], zh29, []), 0, 0),
   ((1, [qtN 0 2 2147483647], [], [qvK (.ofNat 0)], zh29, []), 0, 0),
   ((1, [qtN 0 0 1], [], [qvK (.ofNat 527)], zh129, []), 0, 0)])
noncomputable def c205_0_e : List Ct := [c145_4, c206_0]
noncomputable def c205_0_pts : List PE := []
set_option maxRecDepth 100000 in
theorem c205_0_k : enCtF c205_0 c205_0_e (pkP (c205_0_pts ++ []) []) (none) noH 3000 = true := by decide +kernel
set_option maxRecDepth 100000 in
theorem c205_0_v : ValidC PPk c205_0 := ct_ok fpk noH_ok (d := 1) (ext := []) (pts := c205_0_pts) (env := c205_0_e) rfl (List.forall_mem_cons.mpr ⟨⟨c145_4_v, Nat.le_of_ble_eq_true rfl⟩, List.forall_mem_cons.mpr ⟨⟨c206_0_v, Nat.le_of_ble_eq_true rfl⟩, fun _ h => (by cases h)⟩⟩) ext_nil (fun q h => (by cases h)) (enF c205_0_k) (fun _ h => (by cases h))

noncomputable def c100_0 : Ct := (100, 2, (2, [qtA 0, qtA 1], [], [qvR 0, qvS 0, qvS 1], zh43, []),
  [((2, [(0, (.negSucc 2147483647), (.negSucc 0))], [], [qvK (.negSucc 1)], zh43, []), 0, 0),
   ((2, [qtN 0 10000 2147483647], [], [qvK (.negSucc 1)], zh43, []), 0, 0),
   ((2, [qtN 0 0 9999, (1, (.negSucc 2147483647), (.ofNat 526))], [], [qvK (.negSucc 2)], zh43, []), 0, 0),
   ((2, [qtN 0 0 9999, qtN 1 527 527], [], [qvK (.ofNat 1)], [zc23, zc15, qrC 4 [some 3, some 8], zc16, qiC 0 [qgN 60 0 0], qiC 0 [qgN 60 0 0], qiC 0 [qgN 60 0 0], qiC 0 [qgN 60 0 0], zc17, qiC 0 [qgN 60 0 0], qiC 0 [qgN 60 0 0], qiC 0 [qgN 60 0 0], qiC 0 [qgN 60 0 0], zc18, qiC 0 [qgN 6 0 0], qiC 0 [qgN 6 0 0], qiC 0 [qgN 8 0 0], qiC 0 [qgN 8 0 0], qiC 0 [qgN 8 0 0], qiC 0 [qgN 8 0 0], qiC 0 [qgN 8 0 0], zc19, qiC 0 [qgN 6 0 0], qiC 0 [qgN 6 0 0], qiC 0 [qgN 6 0 0], qiC 0 [qgN 6 0 0], zc9, zc10, zc20, qiC 2 [qgN 60 0 0], qiC 0 [qgN 60 0 0], qjC 1 1000000060, zc21, qiC 0 [qgN 8 0 0], qiC 0 [qgN 8 0 0], qiC 0 [qgN 8 0 0], qiC 0 [qgN 8 0 0], qiC 0 [qgN 8 0 0], qiC 0 [qgN 10 0 0], qiC 0 [qgN 4 0 0], qiC 0 [qgN 4 0 0], qoC 7 [qvR 42, qvK (.ofNat 7), qvR 51, qvR 55, qvR 56, qvK (.ofNat 0), qvK (.ofNat 0), qvK (.ofNat 0), qvK (.ofNat 0), qvK (.ofNat 0), qvK (.ofNat 0), qvK (.ofNat 0), qvK (.ofNat 0), qvK (.ofNat 0), qvK (.ofNat 0), qvK (.ofNat 0), qvS 0], zc38, zc39, qiC 0 [qgN 12 0 0], zc40, qiC 0 [qgN 12 0 0], zc41, qiC 0 [qgN 12 0 0], zc24, qiC 0 [qgN 12 0 0], zc42, qiC 0 [qgN 32 0 0], qiC 0 [qgN 8 0 0], qiC 0 [qgN 8 0 0], qiC 0 [qgN 2 0 0], qiC 0 [qgN 6 0 0], zc26, qjC 1 1000000006, qjC 1 1000000004, qrC 6 [none, none], qrC 7 [none, none]], []), 0, 0),
   ((2, [qtN 0 0 9999, qtN 1 528 2147483647], [], [qvK (.negSucc 2)], zh43, []), 0, 0)])
noncomputable def c100_0_e : List Ct := [c12_26, c99_0]
noncomputable def c100_0_pts : List PE := []
set_option maxRecDepth 100000 in
theorem c100_0_k : enCtF c100_0 c100_0_e (pkP (c100_0_pts ++ []) []) (none) ((hTri 25 2 526), noM, 0, 33554432, 2) 3000 = true := by decide +kernel
set_option maxRecDepth 100000 in
theorem c100_0_v : ValidC PPk c100_0 := ct_ok fpk ⟨(hTri_ok 25 2 526), noM_ok⟩ (d := 1) (ext := []) (pts := c100_0_pts) (env := c100_0_e) rfl (List.forall_mem_cons.mpr ⟨⟨c12_26_v, Nat.le_of_ble_eq_true rfl⟩, List.forall_mem_cons.mpr ⟨⟨c99_0_v, Nat.le_of_ble_eq_true rfl⟩, fun _ h => (by cases h)⟩⟩) ext_nil (fun q h => (by cases h)) (enF c100_0_k) (fun _ h => (by cases h))

noncomputable def c207_0 : Ct := (207, 2, (2, [qtA 0, qtA 1], [], [qvR 0, qvS 0, qvS 1], zh29, []),
  [((2, [(0, (.negSucc 2147483647), (.negSucc 0))], [], [qvK (.negSucc 1)], zh29, []), 0, 0),
   ((2, [qtN 0 10000 2147483647], [], [qvK (.negSucc 1)], zh29, []), 0, 0),
   ((2, [qtN 0 0 9999, (1, (.negSucc 2147483647), (.ofNat 526))], [], [qvK (.negSucc 2)], zh129, []), 0, 0),
   ((2, [qtN 0 0 9999, qtN 1 527 527], [], [qvK (.ofNat 1)], [zc27, qiC 0 [qgN 1 3 3, qgN 7 0 0, qgN 1 3 3, qgN 1 5 5, qgN 7 0 0, qgN 1 100 100, qgN 2 0 0, .inr (0, (.negSucc 0), (.negSucc 0)), qgS 0, .inr (0, (.negSucc 0), (.negSucc 0)), qgN 21 0 0, qgN 1 1 1, qgN 39 0 0, qgN 1 1 1, qgN 39 0 0, qgN 1 1 1, qgN 39 0 0, qgN 1 1 1, qgN 621 0 0, .inr (1, (.negSucc 99), (.negSucc 99)), qgN 1 100 100, .inr (1, (.negSucc 99), (.negSucc 99)), qgN 1 100 100, .inr (1, (.negSucc 99), (.negSucc 99)), qgN 1 100 100, .inr (1, (.negSucc 99), (.negSucc 99)), qgN 1 100 100, qgN 118 0 0], qiC 0 [qgN 1820 0 0], qiC 3 [qgN 2 0 0], qiC 0 [qgN 70 0 0], qiC 0 [qgN 70 0 0], qiC 0 [qgN 70 0 0], qjC 1 1000000070, qjC 1 1000000008, qiC 0 [qgN 910 0 0], qiC 0 [qgN 910 0 0], qiC 0 [qgN 20 0 0], qiC 0 [qgN 20 0 0], qiC 0 [qgN 910 0 0], qjC 1 1000000004], []), 0, 0),
   ((2, [qtN 0 0 9999, qtN 1 528 2147483647], [], [qvK (.negSucc 2)], zh129, []), 0, 0)])
noncomputable def c207_0_e : List Ct := [c145_26, c206_0]
noncomputable def c207_0_pts : List PE := []
set_option maxRecDepth 100000 in
theorem c207_0_k : enCtF c207_0 c207_0_e (pkP (c207_0_pts ++ []) []) (none) ((hTri 25 2 526), noM, 0, 33554432, 2) 3000 = true := by decide +kernel
set_option maxRecDepth 100000 in
theorem c207_0_v : ValidC PPk c207_0 := ct_ok fpk ⟨(hTri_ok 25 2 526), noM_ok⟩ (d := 1) (ext := []) (pts := c207_0_pts) (env := c207_0_e) rfl (List.forall_mem_cons.mpr ⟨⟨c145_26_v, Nat.le_of_ble_eq_true rfl⟩, List.forall_mem_cons.mpr ⟨⟨c206_0_v, Nat.le_of_ble_eq_true rfl⟩, fun _ h => (by cases h)⟩⟩) ext_nil (fun q h => (by cases h)) (enF c207_0_k) (fun _ h => (by cases h))
