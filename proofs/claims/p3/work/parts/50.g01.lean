/-! ===== contracts, written by wip/vse3/emitlaw.py ===== -/
noncomputable def zh119 : AH := [zc112, qiC 2 [qgN 60 0 127], qiC 0 [qgA 60], qjC 1 60]
noncomputable def zh120 : AH := [qoC 5 [qvS 0, qvR 1, qvS 7, qvS 8, qvS 9, qvR 2, qvR 3], qiC 2 [qgN 60 0 127], qiC 0 [qgA 60], qjC 1 60]
noncomputable def c39_0 : Ct := (39, 4, (4, [qtN 0 0 60, qtA 1, qtN 2 0 60, qtN 3 0 60], [], [qvR 0, qvK (.ofNat 8)], zh115, []),
  [((7, [qtA 4, qtN 5 0 60, qtN 6 0 60], [], [], zh116, []), 0, 0)])
noncomputable def c39_0_e : List Ct := [c40_0, c41_0, c41_1, c44_0]
noncomputable def c39_0_p0 : PE := (13, [0, 1, 2, 3, 4], (7, [qtN 0 1 60, (1, (.negSucc 0), (.negSucc 0)), qtN 2 0 60, qtN 3 0 60, qtN 4 0 127, qtN 5 0 60, qtN 6 0 59], [((.ofNat 1), [(0, (.negSucc 0)), (6, (.ofNat 1))])], [qvR 0, qvK (.ofNat 8), qvS 2, qvS 4, qvS 5], zh119, []), symsL 4 0, some ((.ofNat 182), [(5, (.negSucc 0))]), 0, 0)
noncomputable def c39_0_p1 : PE := (13, [0, 1, 2, 3, 4], (6, [qtN 0 0 60, qtA 1, qtN 2 0 60, qtN 3 0 60, qtN 4 0 60, qtN 5 0 60], [], [qvR 0, qvK (.ofNat 8), qvS 2, qvK (.negSucc 0), qvS 4], zh117, []), symsL 4 0, some ((.ofNat 182), [(4, (.negSucc 0))]), 0, 0)
noncomputable def c39_0_p2 : PE := (71, [0, 1, 2, 3, 4, 5], (10, [qtN 0 0 60, qtA 1, qtN 2 0 60, qtN 3 0 60, (4, (.negSucc 0), (.ofNat 127)), qtN 5 0 60, (6, (.negSucc 0), (.ofNat 59)), qtA 7, qtN 8 0 60, qtN 9 0 60], [], [qvR 0, qvK (.ofNat 8), qvS 2, qvS 4, qvS 5, qvS 6], zh120, []), symsL 4 0, some ((.ofNat 62), [(6, (.ofNat 1))]), 0, 0)
noncomputable def c39_0_pts : List PE := [c39_0_p0, c39_0_p1, c39_0_p2]
set_option maxRecDepth 100000 in
theorem c39_0_k : enCtF c39_0 c39_0_e (pkP (c39_0_pts ++ []) [1, 0]) (none) (noF, noM, 2361183241434822615040, 0, 4) 3000 = true := by decide +kernel
set_option maxRecDepth 100000 in
theorem c39_0_k0 : ptCtF c39_0 c39_0_e (pkP (c39_0_pts ++ []) [2, 1, 0]) (noF, noM, 2361183241434822615040, 0, 4) 3000 c39_0_p0 = true := by decide +kernel
set_option maxRecDepth 100000 in
theorem c39_0_k1 : ptCtF c39_0 c39_0_e (pkP (c39_0_pts ++ []) [2]) (noF, noM, 2361183241434822615040, 0, 4) 3000 c39_0_p1 = true := by decide +kernel
set_option maxRecDepth 100000 in
theorem c39_0_k2 : ptCtF c39_0 c39_0_e (pkP (c39_0_pts ++ []) [2]) (noF, noM, 2361183241434822615040, 0, 4) 3000 c39_0_p2 = true := by decide +kernel
set_option maxRecDepth 100000 in
theorem c39_0_v : ValidC PPk c39_0 := ct_ok fpk ⟨noF_ok, noM_ok⟩ (d := 3) (ext := []) (pts := c39_0_pts) (env := c39_0_e) rfl (List.forall_mem_cons.mpr ⟨⟨c40_0_v, Nat.le_of_ble_eq_true rfl⟩, List.forall_mem_cons.mpr ⟨⟨c41_0_v, Nat.le_of_ble_eq_true rfl⟩, List.forall_mem_cons.mpr ⟨⟨c41_1_v, Nat.le_of_ble_eq_true rfl⟩, List.forall_mem_cons.mpr ⟨⟨c44_0_v, Nat.le_of_ble_eq_true rfl⟩, fun _ h => (by cases h)⟩⟩⟩⟩) ext_nil (fun q h => (by cases h)) (enF c39_0_k) (List.forall_mem_cons.mpr ⟨⟨_, ptF c39_0_k0⟩, List.forall_mem_cons.mpr ⟨⟨_, ptF c39_0_k1⟩, List.forall_mem_cons.mpr ⟨⟨_, ptF c39_0_k2⟩, fun _ h => (by cases h)⟩⟩⟩)

noncomputable def zt18 (r : TbL) : TbL := qtN 0 0 60 :: qtA 1 :: qtN 2 0 60 :: qtN 3 0 60 :: qtA 4 :: qtN 5 0 60 :: qtN 6 0 60 :: r
noncomputable def zh121 : AH := [qoC 5 [qvS 0, qvR 1, qvS 6, qvS 7, qvS 8, qvR 2, qvR 3], qiC 2 [qgN 60 0 127], qiC 0 [qgA 60], qjC 1 60]
noncomputable def c38_0 : Ct := (38, 5, (4, [qtN 0 0 60, qtA 1, qtN 2 0 60, qtN 3 0 60], [], [qvR 0, qvK (.ofNat 8)], zh115, []),
  [((7, [qtA 4, qtN 5 0 60, qtN 6 0 60], [], [], zh116, []), 0, 0)])
noncomputable def c38_0_e : List Ct := [c39_0, c40_0, c44_0]
noncomputable def c38_0_p0 : PE := (7, [0, 1, 2], (7, (zt18 []), [], [qvR 0, qvK (.ofNat 8), qvK (.ofNat 0)], zh116, []), symsL 4 0, some ((.ofNat 121), []), 0, 0)
noncomputable def c38_0_p1 : PE := (7, [0, 1, 2, 3], (9, [qtN 0 1 60, qtA 1, qtN 2 0 60, qtN 3 0 60, qtN 4 1 60, qtN 5 42 47, qtA 6, qtN 7 0 60, qtN 8 1 60], [], [qvR 0, qvK (.ofNat 8), qvS 4, qvS 5], zh121, []), symsL 4 0, some ((.ofNat 121), [(4, (.negSucc 0))]), 0, 0)
noncomputable def c38_0_pts : List PE := [c38_0_p0, c38_0_p1]
set_option maxRecDepth 100000 in
theorem c38_0_k : enCtF c38_0 c38_0_e (pkP (c38_0_pts ++ []) [0]) (none) (noF, noM, 128, 0, 4) 3000 = true := by decide +kernel
set_option maxRecDepth 100000 in
theorem c38_0_k0 : ptCtF c38_0 c38_0_e (pkP (c38_0_pts ++ []) [1]) (noF, noM, 128, 0, 4) 3000 c38_0_p0 = true := by decide +kernel
set_option maxRecDepth 100000 in
theorem c38_0_k1 : ptCtF c38_0 c38_0_e (pkP (c38_0_pts ++ []) [1]) (noF, noM, 128, 0, 4) 3000 c38_0_p1 = true := by decide +kernel
set_option maxRecDepth 100000 in
theorem c38_0_v : ValidC PPk c38_0 := ct_ok fpk ⟨noF_ok, noM_ok⟩ (d := 4) (ext := []) (pts := c38_0_pts) (env := c38_0_e) rfl (List.forall_mem_cons.mpr ⟨⟨c39_0_v, Nat.le_of_ble_eq_true rfl⟩, List.forall_mem_cons.mpr ⟨⟨c40_0_v, Nat.le_of_ble_eq_true rfl⟩, List.forall_mem_cons.mpr ⟨⟨c44_0_v, Nat.le_of_ble_eq_true rfl⟩, fun _ h => (by cases h)⟩⟩⟩) ext_nil (fun q h => (by cases h)) (enF c38_0_k) (List.forall_mem_cons.mpr ⟨⟨_, ptF c38_0_k0⟩, List.forall_mem_cons.mpr ⟨⟨_, ptF c38_0_k1⟩, fun _ h => (by cases h)⟩⟩)

noncomputable def c37_0 : Ct := (37, 6, (4, [qtN 0 0 60, qtA 1, qtN 2 0 60, qtN 3 0 60], [], [qvR 0, qvK (.ofNat 8)], zh115, []),
  [((7, [qtA 4, qtN 5 0 60, qtN 6 0 60], [], [], zh116, []), 0, 0)])
noncomputable def c37_0_e : List Ct := [c38_0, c40_0, c44_0]
noncomputable def c37_0_p0 : PE := (7, [0, 1, 2], (7, (zt18 []), [], [qvR 0, qvK (.ofNat 8), qvK (.ofNat 0)], zh116, []), symsL 4 0, some ((.ofNat 121), []), 0, 0)
noncomputable def c37_0_p1 : PE := (7, [0, 1, 2, 3], (9, [qtN 0 1 60, qtA 1, qtN 2 0 60, qtN 3 0 60, qtN 4 1 60, qtN 5 43 45, qtA 6, qtN 7 0 60, qtN 8 1 60], [], [qvR 0, qvK (.ofNat 8), qvS 4, qvS 5], zh121, []), symsL 4 0, some ((.ofNat 121), [(4, (.negSucc 0))]), 0, 0)
noncomputable def c37_0_pts : List PE := [c37_0_p0, c37_0_p1]
set_option maxRecDepth 100000 in
theorem c37_0_k : enCtF c37_0 c37_0_e (pkP (c37_0_pts ++ []) [0]) (none) (noF, noM, 128, 0, 4) 3000 = true := by decide +kernel
set_option maxRecDepth 100000 in
theorem c37_0_k0 : ptCtF c37_0 c37_0_e (pkP (c37_0_pts ++ []) [1]) (noF, noM, 128, 0, 4) 3000 c37_0_p0 = true := by decide +kernel
set_option maxRecDepth 100000 in
theorem c37_0_k1 : ptCtF c37_0 c37_0_e (pkP (c37_0_pts ++ []) [1]) (noF, noM, 128, 0, 4) 3000 c37_0_p1 = true := by decide +kernel
set_option maxRecDepth 100000 in
theorem c37_0_v : ValidC PPk c37_0 := ct_ok fpk ⟨noF_ok, noM_ok⟩ (d := 5) (ext := []) (pts := c37_0_pts) (env := c37_0_e) rfl (List.forall_mem_cons.mpr ⟨⟨c38_0_v, Nat.le_of_ble_eq_true rfl⟩, List.forall_mem_cons.mpr ⟨⟨c40_0_v, Nat.le_of_ble_eq_true rfl⟩, List.forall_mem_cons.mpr ⟨⟨c44_0_v, Nat.le_of_ble_eq_true rfl⟩, fun _ h => (by cases h)⟩⟩⟩) ext_nil (fun q h => (by cases h)) (enF c37_0_k) (List.forall_mem_cons.mpr ⟨⟨_, ptF c37_0_k0⟩, List.forall_mem_cons.mpr ⟨⟨_, ptF c37_0_k1⟩, fun _ h => (by cases h)⟩⟩)

noncomputable def c36_0 : Ct := (36, 7, (4, [qtN 0 0 60, qtA 1, qtN 2 0 60, qtN 3 0 60], [], [qvR 0, qvK (.ofNat 8)], zh115, []),
  [((7, [qtA 4, qtN 5 0 60, qtN 6 0 60], [], [], zh116, []), 0, 0)])
noncomputable def c36_0_e : List Ct := [c37_0, c40_0, c44_0]
noncomputable def c36_0_pts : List PE := []
set_option maxRecDepth 100000 in
theorem c36_0_k : enCtF c36_0 c36_0_e (pkP (c36_0_pts ++ []) []) (none) noH 3000 = true := by decide +kernel
set_option maxRecDepth 100000 in
theorem c36_0_v : ValidC PPk c36_0 := ct_ok fpk noH_ok (d := 6) (ext := []) (pts := c36_0_pts) (env := c36_0_e) rfl (List.forall_mem_cons.mpr ⟨⟨c37_0_v, Nat.le_of_ble_eq_true rfl⟩, List.forall_mem_cons.mpr ⟨⟨c40_0_v, Nat.le_of_ble_eq_true rfl⟩, List.forall_mem_cons.mpr ⟨⟨c44_0_v, Nat.le_of_ble_eq_true rfl⟩, fun _ h => (by cases h)⟩⟩⟩) ext_nil (fun q h => (by cases h)) (enF c36_0_k) (fun _ h => (by cases h))

noncomputable def c35_0 : Ct := (35, 8, (4, [qtN 0 0 60, qtA 1, qtN 2 0 60, qtN 3 0 60], [], [qvR 0, qvK (.ofNat 8)], zh115, []),
  [((7, [qtA 4, qtN 5 0 60, qtN 6 0 60], [], [], zh116, []), 0, 0)])
noncomputable def c35_0_e : List Ct := [c36_0, c40_0, c44_0]
noncomputable def c35_0_p0 : PE := (7, [0, 1, 2], (8, [qtN 0 0 60, qtA 1, qtN 2 0 60, qtN 3 0 60, qtN 4 0 60, qtA 5, qtN 6 0 60, qtN 7 0 60], [], [qvR 0, qvK (.ofNat 8), qvS 4], zh118, []), symsL 4 0, some ((.ofNat 121), [(4, (.negSucc 0))]), 0, 0)
noncomputable def c35_0_pts : List PE := [c35_0_p0]
set_option maxRecDepth 100000 in
theorem c35_0_k : enCtF c35_0 c35_0_e (pkP (c35_0_pts ++ []) [0]) (none) (noF, noM, 128, 0, 4) 3000 = true := by decide +kernel
set_option maxRecDepth 100000 in
theorem c35_0_k0 : ptCtF c35_0 c35_0_e (pkP (c35_0_pts ++ []) [0]) (noF, noM, 128, 0, 4) 3000 c35_0_p0 = true := by decide +kernel
set_option maxRecDepth 100000 in
theorem c35_0_v : ValidC PPk c35_0 := ct_ok fpk ⟨noF_ok, noM_ok⟩ (d := 7) (ext := []) (pts := c35_0_pts) (env := c35_0_e) rfl (List.forall_mem_cons.mpr ⟨⟨c36_0_v, Nat.le_of_ble_eq_true rfl⟩, List.forall_mem_cons.mpr ⟨⟨c40_0_v, Nat.le_of_ble_eq_true rfl⟩, List.forall_mem_cons.mpr ⟨⟨c44_0_v, Nat.le_of_ble_eq_true rfl⟩, fun _ h => (by cases h)⟩⟩⟩) ext_nil (fun q h => (by cases h)) (enF c35_0_k) (List.forall_mem_cons.mpr ⟨⟨_, ptF c35_0_k0⟩, fun _ h => (by cases h)⟩)

noncomputable def c34_0 : Ct := (34, 9, (4, [qtN 0 0 60, qtA 1, qtN 2 0 60, qtN 3 0 60], [], [qvR 0, qvK (.ofNat 8)], zh115, []),
  [((7, [qtA 4, qtN 5 0 60, qtN 6 0 60], [], [], zh116, []), 0, 0)])
noncomputable def c34_0_e : List Ct := [c35_0, c40_0, c44_0]
noncomputable def c34_0_p0 : PE := (7, [0, 1, 2], (8, [qtN 0 0 60, qtA 1, qtN 2 0 60, qtN 3 0 60, qtN 4 0 60, qtA 5, qtN 6 0 60, qtN 7 0 60], [], [qvR 0, qvK (.ofNat 8), qvS 4], zh118, []), symsL 4 0, some ((.ofNat 121), [(4, (.negSucc 0))]), 0, 0)
noncomputable def c34_0_pts : List PE := [c34_0_p0]
set_option maxRecDepth 100000 in
theorem c34_0_k : enCtF c34_0 c34_0_e (pkP (c34_0_pts ++ []) [0]) (none) (noF, noM, 128, 0, 4) 3000 = true := by decide +kernel
set_option maxRecDepth 100000 in
theorem c34_0_k0 : ptCtF c34_0 c34_0_e (pkP (c34_0_pts ++ []) [0]) (noF, noM, 128, 0, 4) 3000 c34_0_p0 = true := by decide +kernel
set_option maxRecDepth 100000 in
theorem c34_0_v : ValidC PPk c34_0 := ct_ok fpk ⟨noF_ok, noM_ok⟩ (d := 8) (ext := []) (pts := c34_0_pts) (env := c34_0_e) rfl (List.forall_mem_cons.mpr ⟨⟨c35_0_v, Nat.le_of_ble_eq_true rfl⟩, List.forall_mem_cons.mpr ⟨⟨c40_0_v, Nat.le_of_ble_eq_true rfl⟩, List.forall_mem_cons.mpr ⟨⟨c44_0_v, Nat.le_of_ble_eq_true rfl⟩, fun _ h => (by cases h)⟩⟩⟩) ext_nil (fun q h => (by cases h)) (enF c34_0_k) (List.forall_mem_cons.mpr ⟨⟨_, ptF c34_0_k0⟩, fun _ h => (by cases h)⟩)

noncomputable def c45_1 : Ct := (45, 10, (4, [qtN 0 0 60, qtA 1, qtN 2 0 60, qtN 3 0 60], [((.ofNat 1), [(0, (.negSucc 0)), (2, (.ofNat 1))])], [qvR 0, qvK (.ofNat 7)], zh115, []),
  [((7, [qtA 4, qtN 5 0 60, qtN 6 0 60], [], [], zh116, []), 0, 0)])
noncomputable def c45_1_e : List Ct := [c34_0, c40_0, c43_0]
noncomputable def c45_1_pts : List PE := []
set_option maxRecDepth 100000 in
theorem c45_1_k : enCtF c45_1 c45_1_e (pkP (c45_1_pts ++ []) []) (none) noH 3000 = true := by decide +kernel
set_option maxRecDepth 100000 in
theorem c45_1_v : ValidC PPk c45_1 := ct_ok fpk noH_ok (d := 9) (ext := []) (pts := c45_1_pts) (env := c45_1_e) rfl (List.forall_mem_cons.mpr ⟨⟨c34_0_v, Nat.le_of_ble_eq_true rfl⟩, List.forall_mem_cons.mpr ⟨⟨c40_0_v, Nat.le_of_ble_eq_true rfl⟩, List.forall_mem_cons.mpr ⟨⟨c43_0_v, Nat.le_of_ble_eq_true rfl⟩, fun _ h => (by cases h)⟩⟩⟩) ext_nil (fun q h => (by cases h)) (enF c45_1_k) (fun _ h => (by cases h))

noncomputable def c41_2 : Ct := (41, 11, (5, [qtN 0 0 60, qtA 1, qtN 2 0 60, qtN 3 0 60, qtA 4], [((.ofNat 1), [(0, (.negSucc 0)), (2, (.ofNat 1))])], [qvR 0, qvS 4, qvK (.ofNat 7)], zh115, []),
  [((8, [qtA 5, qtN 6 0 60, qtN 7 0 60], [], [], zh118, []), 0, 0)])
noncomputable def c41_2_e : List Ct := [c42_0, c43_0, c44_0, c45_1]
noncomputable def c41_2_pts : List PE := []
set_option maxRecDepth 100000 in
theorem c41_2_k : enCtF c41_2 c41_2_e (pkP (c41_2_pts ++ []) []) (none) noH 3000 = true := by decide +kernel
set_option maxRecDepth 100000 in
theorem c41_2_v : ValidC PPk c41_2 := ct_ok fpk noH_ok (d := 10) (ext := []) (pts := c41_2_pts) (env := c41_2_e) rfl (List.forall_mem_cons.mpr ⟨⟨c42_0_v, Nat.le_of_ble_eq_true rfl⟩, List.forall_mem_cons.mpr ⟨⟨c43_0_v, Nat.le_of_ble_eq_true rfl⟩, List.forall_mem_cons.mpr ⟨⟨c44_0_v, Nat.le_of_ble_eq_true rfl⟩, List.forall_mem_cons.mpr ⟨⟨c45_1_v, Nat.le_of_ble_eq_true rfl⟩, fun _ h => (by cases h)⟩⟩⟩⟩) ext_nil (fun q h => (by cases h)) (enF c41_2_k) (fun _ h => (by cases h))

noncomputable def c41_3 : Ct := (41, 2, (6, [qtN 0 0 60, qtA 1, qtN 2 0 60, qtN 3 0 60], [], [qvR 0, qvK (.negSucc 0), qvK (.ofNat 7)], zh113, []),
  [((7, [qtA 6], [], [], zh114, []), 0, 0)])
noncomputable def c41_3_e : List Ct := [c43_0]
noncomputable def c41_3_pts : List PE := []
set_option maxRecDepth 100000 in
theorem c41_3_k : enCtF c41_3 c41_3_e (pkP (c41_3_pts ++ []) []) (none) noH 3000 = true := by decide +kernel
set_option maxRecDepth 100000 in
theorem c41_3_v : ValidC PPk c41_3 := ct_ok fpk noH_ok (d := 1) (ext := []) (pts := c41_3_pts) (env := c41_3_e) rfl (List.forall_mem_cons.mpr ⟨⟨c43_0_v, Nat.le_of_ble_eq_true rfl⟩, fun _ h => (by cases h)⟩) ext_nil (fun q h => (by cases h)) (enF c41_3_k) (fun _ h => (by cases h))

noncomputable def c39_1 : Ct := (39, 12, (4, [qtN 0 0 60, qtA 1, qtN 2 0 60, qtN 3 0 60], [], [qvR 0, qvK (.ofNat 7)], zh115, []),
  [((7, [qtA 4, qtN 5 0 60, qtN 6 0 60], [], [], zh116, []), 0, 0)])
noncomputable def c39_1_e : List Ct := [c40_0, c41_2, c41_3, c44_0]
noncomputable def c39_1_p0 : PE := (13, [0, 1, 2, 3, 4], (7, [qtN 0 1 60, (1, (.negSucc 0), (.negSucc 0)), qtN 2 0 60, qtN 3 0 60, qtN 4 0 127, qtN 5 0 60, qtN 6 0 59], [((.ofNat 1), [(0, (.negSucc 0)), (6, (.ofNat 1))])], [qvR 0, qvK (.ofNat 7), qvS 2, qvS 4, qvS 5], zh119, []), symsL 4 0, some ((.ofNat 182), [(5, (.negSucc 0))]), 0, 0)
noncomputable def c39_1_p1 : PE := (13, [0, 1, 2, 3, 4], (6, [qtN 0 0 60, qtA 1, qtN 2 0 60, qtN 3 0 60, qtN 4 0 60, qtN 5 0 60], [], [qvR 0, qvK (.ofNat 7), qvS 2, qvK (.negSucc 0), qvS 4], zh117, []), symsL 4 0, some ((.ofNat 182), [(4, (.negSucc 0))]), 0, 0)
noncomputable def c39_1_p2 : PE := (71, [0, 1, 2, 3, 4, 5], (10, [qtN 0 0 60, qtA 1, qtN 2 0 60, qtN 3 0 60, (4, (.negSucc 0), (.ofNat 127)), qtN 5 0 60, (6, (.negSucc 0), (.ofNat 59)), qtA 7, qtN 8 0 60, qtN 9 0 60], [], [qvR 0, qvK (.ofNat 7), qvS 2, qvS 4, qvS 5, qvS 6], zh120, []), symsL 4 0, some ((.ofNat 62), [(6, (.ofNat 1))]), 0, 0)
noncomputable def c39_1_pts : List PE := [c39_1_p0, c39_1_p1, c39_1_p2]
set_option maxRecDepth 100000 in
theorem c39_1_k : enCtF c39_1 c39_1_e (pkP (c39_1_pts ++ []) [1, 0]) (none) (noF, noM, 2361183241434822615040, 0, 4) 3000 = true := by decide +kernel
set_option maxRecDepth 100000 in
theorem c39_1_k0 : ptCtF c39_1 c39_1_e (pkP (c39_1_pts ++ []) [2, 1, 0]) (noF, noM, 2361183241434822615040, 0, 4) 3000 c39_1_p0 = true := by decide +kernel
set_option maxRecDepth 100000 in
theorem c39_1_k1 : ptCtF c39_1 c39_1_e (pkP (c39_1_pts ++ []) [2]) (noF, noM, 2361183241434822615040, 0, 4) 3000 c39_1_p1 = true := by decide +kernel
set_option maxRecDepth 100000 in
theorem c39_1_k2 : ptCtF c39_1 c39_1_e (pkP (c39_1_pts ++ []) [2]) (noF, noM, 2361183241434822615040, 0, 4) 3000 c39_1_p2 = true := by decide +kernel
set_option maxRecDepth 100000 in
theorem c39_1_v : ValidC PPk c39_1 := ct_ok fpk ⟨noF_ok, noM_ok⟩ (d := 11) (ext := []) (pts := c39_1_pts) (env := c39_1_e) rfl (List.forall_mem_cons.mpr ⟨⟨c40_0_v, Nat.le_of_ble_eq_true rfl⟩, List.forall_mem_cons.mpr ⟨⟨c41_2_v, Nat.le_of_ble_eq_true rfl⟩, List.forall_mem_cons.mpr ⟨⟨c41_3_v, Nat.le_of_ble_eq_true rfl⟩, List.forall_mem_cons.mpr ⟨⟨c44_0_v, Nat.le_of_ble_eq_true rfl⟩, fun _ h => (by cases h)⟩⟩⟩⟩) ext_nil (fun q h => (by cases h)) (enF c39_1_k) (List.forall_mem_cons.mpr ⟨⟨_, ptF c39_1_k0⟩, List.forall_mem_cons.mpr ⟨⟨_, ptF c39_1_k1⟩, List.forall_mem_cons.mpr ⟨⟨_, ptF c39_1_k2⟩, fun _ h => (by cases h)⟩⟩⟩)

noncomputable def c38_1 : Ct := (38, 13, (4, [qtN 0 0 60, qtA 1, qtN 2 0 60, qtN 3 0 60], [], [qvR 0, qvK (.ofNat 7)], zh115, []),
  [((7, [qtA 4, qtN 5 0 60, qtN 6 0 60], [], [], zh116, []), 0, 0)])
noncomputable def c38_1_e : List Ct := [c39_1, c40_0, c44_0]
noncomputable def c38_1_p0 : PE := (7, [0, 1, 2], (7, (zt18 []), [], [qvR 0, qvK (.ofNat 7), qvK (.ofNat 0)], zh116, []), symsL 4 0, some ((.ofNat 121), []), 0, 0)
noncomputable def c38_1_p1 : PE := (7, [0, 1, 2, 3], (9, [qtN 0 1 60, qtA 1, qtN 2 0 60, qtN 3 0 60, qtN 4 1 60, qtN 5 42 47, qtA 6, qtN 7 0 60, qtN 8 1 60], [], [qvR 0, qvK (.ofNat 7), qvS 4, qvS 5], zh121, []), symsL 4 0, some ((.ofNat 121), [(4, (.negSucc 0))]), 0, 0)
noncomputable def c38_1_pts : List PE := [c38_1_p0, c38_1_p1]
set_option maxRecDepth 100000 in
theorem c38_1_k : enCtF c38_1 c38_1_e (pkP (c38_1_pts ++ []) [0]) (none) (noF, noM, 128, 0, 4) 3000 = true := by decide +kernel
set_option maxRecDepth 100000 in
theorem c38_1_k0 : ptCtF c38_1 c38_1_e (pkP (c38_1_pts ++ []) [1]) (noF, noM, 128, 0, 4) 3000 c38_1_p0 = true := by decide +kernel
set_option maxRecDepth 100000 in
theorem c38_1_k1 : ptCtF c38_1 c38_1_e (pkP (c38_1_pts ++ []) [1]) (noF, noM, 128, 0, 4) 3000 c38_1_p1 = true := by decide +kernel
set_option maxRecDepth 100000 in
theorem c38_1_v : ValidC PPk c38_1 := ct_ok fpk ⟨noF_ok, noM_ok⟩ (d := 12) (ext := []) (pts := c38_1_pts) (env := c38_1_e) rfl (List.forall_mem_cons.mpr ⟨⟨c39_1_v, Nat.le_of_ble_eq_true rfl⟩, List.forall_mem_cons.mpr ⟨⟨c40_0_v, Nat.le_of_ble_eq_true rfl⟩, List.forall_mem_cons.mpr ⟨⟨c44_0_v, Nat.le_of_ble_eq_true rfl⟩, fun _ h => (by cases h)⟩⟩⟩) ext_nil (fun q h => (by cases h)) (enF c38_1_k) (List.forall_mem_cons.mpr ⟨⟨_, ptF c38_1_k0⟩, List.forall_mem_cons.mpr ⟨⟨_, ptF c38_1_k1⟩, fun _ h => (by cases h)⟩⟩)

noncomputable def c37_1 : Ct := (37, 14, (4, [qtN 0 0 60, qtA 1, qtN 2 0 60, qtN 3 0 60], [], [qvR 0, qvK (.ofNat 7)], zh115, []),
  [((7, [qtA 4, qtN 5 0 60, qtN 6 0 60], [], [], zh116, []), 0, 0)])
noncomputable def c37_1_e : List Ct := [c38_1, c40_0, c44_0]
noncomputable def c37_1_p0 : PE := (7, [0, 1, 2], (7, (zt18 []), [], [qvR 0, qvK (.ofNat 7), qvK (.ofNat 0)], zh116, []), symsL 4 0, some ((.ofNat 121), []), 0, 0)
noncomputable def c37_1_p1 : PE := (7, [0, 1, 2, 3], (9, [qtN 0 1 60, qtA 1, qtN 2 0 60, qtN 3 0 60, qtN 4 1 60, qtN 5 43 45, qtA 6, qtN 7 0 60, qtN 8 1 60], [], [qvR 0, qvK (.ofNat 7), qvS 4, qvS 5], zh121, []), symsL 4 0, some ((.ofNat 121), [(4, (.negSucc 0))]), 0, 0)
noncomputable def c37_1_pts : List PE := [c37_1_p0, c37_1_p1]
set_option maxRecDepth 100000 in
theorem c37_1_k : enCtF c37_1 c37_1_e (pkP (c37_1_pts ++ []) [0]) (none) (noF, noM, 128, 0, 4) 3000 = true := by decide +kernel
set_option maxRecDepth 100000 in
theorem c37_1_k0 : ptCtF c37_1 c37_1_e (pkP (c37_1_pts ++ []) [1]) (noF, noM, 128, 0, 4) 3000 c37_1_p0 = true := by decide +kernel
set_option maxRecDepth 100000 in
theorem c37_1_k1 : ptCtF c37_1 c37_1_e (pkP (c37_1_pts ++ []) [1]) (noF, noM, 128, 0, 4) 3000 c37_1_p1 = true := by decide +kernel
set_option maxRecDepth 100000 in
theorem c37_1_v : ValidC PPk c37_1 := ct_ok fpk ⟨noF_ok, noM_ok⟩ (d := 13) (ext := []) (pts := c37_1_pts) (env := c37_1_e) rfl (List.forall_mem_cons.mpr ⟨⟨c38_1_v, Nat.le_of_ble_eq_true rfl⟩, List.forall_mem_cons.mpr ⟨⟨c40_0_v, Nat.le_of_ble_eq_true rfl⟩, List.forall_mem_cons.mpr ⟨⟨c44_0_v, Nat.le_of_ble_eq_true rfl⟩, fun _ h => (by cases h)⟩⟩⟩) ext_nil (fun q h => (by cases h)) (enF c37_1_k) (List.forall_mem_cons.mpr ⟨⟨_, ptF c37_1_k0⟩, List.forall_mem_cons.mpr ⟨⟨_, ptF c37_1_k1⟩, fun _ h => (by cases h)⟩⟩)

noncomputable def c36_1 : Ct := (36, 15, (4, [qtN 0 0 60, qtA 1, qtN 2 0 60, qtN 3 0 60], [], [qvR 0, qvK (.ofNat 7)], zh115, []),
  [((7, [qtA 4, qtN 5 0 60, qtN 6 0 60], [], [], zh116, []), 0, 0)])
noncomputable def c36_1_e : List Ct := [c37_1, c40_0, c44_0]
noncomputable def c36_1_pts : List PE := []
set_option maxRecDepth 100000 in
theorem c36_1_k : enCtF c36_1 c36_1_e (pkP (c36_1_pts ++ []) []) (none) noH 3000 = true := by decide +kernel
set_option maxRecDepth 100000 in
theorem c36_1_v : ValidC PPk c36_1 := ct_ok fpk noH_ok (d := 14) (ext := []) (pts := c36_1_pts) (env := c36_1_e) rfl (List.forall_mem_cons.mpr ⟨⟨c37_1_v, Nat.le_of_ble_eq_true rfl⟩, List.forall_mem_cons.mpr ⟨⟨c40_0_v, Nat.le_of_ble_eq_true rfl⟩, List.forall_mem_cons.mpr ⟨⟨c44_0_v, Nat.le_of_ble_eq_true rfl⟩, fun _ h => (by cases h)⟩⟩⟩) ext_nil (fun q h => (by cases h)) (enF c36_1_k) (fun _ h => (by cases h))

noncomputable def c35_1 : Ct := (35, 16, (4, [qtN 0 0 60, qtA 1, qtN 2 0 60, qtN 3 0 60], [], [qvR 0, qvK (.ofNat 7)], zh115, []),
  [((7, [qtA 4, qtN 5 0 60, qtN 6 0 60], [], [], zh116, []), 0, 0)])
noncomputable def c35_1_e : List Ct := [c36_1, c40_0, c44_0]
noncomputable def c35_1_p0 : PE := (7, [0, 1, 2], (8, [qtN 0 0 60, qtA 1, qtN 2 0 60, qtN 3 0 60, qtN 4 0 60, qtA 5, qtN 6 0 60, qtN 7 0 60], [], [qvR 0, qvK (.ofNat 7), qvS 4], zh118, []), symsL 4 0, some ((.ofNat 121), [(4, (.negSucc 0))]), 0, 0)
noncomputable def c35_1_pts : List PE := [c35_1_p0]
set_option maxRecDepth 100000 in
theorem c35_1_k : enCtF c35_1 c35_1_e (pkP (c35_1_pts ++ []) [0]) (none) (noF, noM, 128, 0, 4) 3000 = true := by decide +kernel
set_option maxRecDepth 100000 in
theorem c35_1_k0 : ptCtF c35_1 c35_1_e (pkP (c35_1_pts ++ []) [0]) (noF, noM, 128, 0, 4) 3000 c35_1_p0 = true := by decide +kernel
set_option maxRecDepth 100000 in
theorem c35_1_v : ValidC PPk c35_1 := ct_ok fpk ⟨noF_ok, noM_ok⟩ (d := 15) (ext := []) (pts := c35_1_pts) (env := c35_1_e) rfl (List.forall_mem_cons.mpr ⟨⟨c36_1_v, Nat.le_of_ble_eq_true rfl⟩, List.forall_mem_cons.mpr ⟨⟨c40_0_v, Nat.le_of_ble_eq_true rfl⟩, List.forall_mem_cons.mpr ⟨⟨c44_0_v, Nat.le_of_ble_eq_true rfl⟩, fun _ h => (by cases h)⟩⟩⟩) ext_nil (fun q h => (by cases h)) (enF c35_1_k) (List.forall_mem_cons.mpr ⟨⟨_, ptF c35_1_k0⟩, fun _ h => (by cases h)⟩)

noncomputable def c34_1 : Ct := (34, 17, (4, [qtN 0 0 60, qtA 1, qtN 2 0 60, qtN 3 0 60], [], [qvR 0, qvK (.ofNat 7)], zh115, []),
  [((7, [qtA 4, qtN 5 0 60, qtN 6 0 60], [], [], zh116, []), 0, 0)])
noncomputable def c34_1_e : List Ct := [c35_1, c40_0, c44_0]
noncomputable def c34_1_p0 : PE := (7, [0, 1, 2], (8, [qtN 0 0 60, qtA 1, qtN 2 0 60, qtN 3 0 60, qtN 4 0 60, qtA 5, qtN 6 0 60, qtN 7 0 60], [], [qvR 0, qvK (.ofNat 7), qvS 4], zh118, []), symsL 4 0, some ((.ofNat 121), [(4, (.negSucc 0))]), 0, 0)
noncomputable def c34_1_pts : List PE := [c34_1_p0]
set_option maxRecDepth 100000 in
theorem c34_1_k : enCtF c34_1 c34_1_e (pkP (c34_1_pts ++ []) [0]) (none) (noF, noM, 128, 0, 4) 3000 = true := by decide +kernel
set_option maxRecDepth 100000 in
theorem c34_1_k0 : ptCtF c34_1 c34_1_e (pkP (c34_1_pts ++ []) [0]) (noF, noM, 128, 0, 4) 3000 c34_1_p0 = true := by decide +kernel
set_option maxRecDepth 100000 in
theorem c34_1_v : ValidC PPk c34_1 := ct_ok fpk ⟨noF_ok, noM_ok⟩ (d := 16) (ext := []) (pts := c34_1_pts) (env := c34_1_e) rfl (List.forall_mem_cons.mpr ⟨⟨c35_1_v, Nat.le_of_ble_eq_true rfl⟩, List.forall_mem_cons.mpr ⟨⟨c40_0_v, Nat.le_of_ble_eq_true rfl⟩, List.forall_mem_cons.mpr ⟨⟨c44_0_v, Nat.le_of_ble_eq_true rfl⟩, fun _ h => (by cases h)⟩⟩⟩) ext_nil (fun q h => (by cases h)) (enF c34_1_k) (List.forall_mem_cons.mpr ⟨⟨_, ptF c34_1_k0⟩, fun _ h => (by cases h)⟩)

noncomputable def c45_2 : Ct := (45, 18, (4, [qtN 0 0 60, qtA 1, qtN 2 0 60, qtN 3 0 60], [((.ofNat 1), [(0, (.negSucc 0)), (2, (.ofNat 1))])], [qvR 0, qvK (.ofNat 6)], zh115, []),
  [((7, [qtA 4, qtN 5 0 60, qtN 6 0 60], [], [], zh116, []), 0, 0)])
noncomputable def c45_2_e : List Ct := [c34_1, c40_0, c43_0]
noncomputable def c45_2_pts : List PE := []
set_option maxRecDepth 100000 in
theorem c45_2_k : enCtF c45_2 c45_2_e (pkP (c45_2_pts ++ []) []) (none) noH 3000 = true := by decide +kernel
set_option maxRecDepth 100000 in
theorem c45_2_v : ValidC PPk c45_2 := ct_ok fpk noH_ok (d := 17) (ext := []) (pts := c45_2_pts) (env := c45_2_e) rfl (List.forall_mem_cons.mpr ⟨⟨c34_1_v, Nat.le_of_ble_eq_true rfl⟩, List.forall_mem_cons.mpr ⟨⟨c40_0_v, Nat.le_of_ble_eq_true rfl⟩, List.forall_mem_cons.mpr ⟨⟨c43_0_v, Nat.le_of_ble_eq_true rfl⟩, fun _ h => (by cases h)⟩⟩⟩) ext_nil (fun q h => (by cases h)) (enF c45_2_k) (fun _ h => (by cases h))

noncomputable def c41_4 : Ct := (41, 19, (5, [qtN 0 0 60, qtA 1, qtN 2 0 60, qtN 3 0 60, qtA 4], [((.ofNat 1), [(0, (.negSucc 0)), (2, (.ofNat 1))])], [qvR 0, qvS 4, qvK (.ofNat 6)], zh115, []),
  [((8, [qtA 5, qtN 6 0 60, qtN 7 0 60], [], [], zh118, []), 0, 0)])
noncomputable def c41_4_e : List Ct := [c42_0, c43_0, c44_0, c45_2]
noncomputable def c41_4_pts : List PE := []
set_option maxRecDepth 100000 in
theorem c41_4_k : enCtF c41_4 c41_4_e (pkP (c41_4_pts ++ []) []) (none) noH 3000 = true := by decide +kernel
set_option maxRecDepth 100000 in
theorem c41_4_v : ValidC PPk c41_4 := ct_ok fpk noH_ok (d := 18) (ext := []) (pts := c41_4_pts) (env := c41_4_e) rfl (List.forall_mem_cons.mpr ⟨⟨c42_0_v, Nat.le_of_ble_eq_true rfl⟩, List.forall_mem_cons.mpr ⟨⟨c43_0_v, Nat.le_of_ble_eq_true rfl⟩, List.forall_mem_cons.mpr ⟨⟨c44_0_v, Nat.le_of_ble_eq_true rfl⟩, List.forall_mem_cons.mpr ⟨⟨c45_2_v, Nat.le_of_ble_eq_true rfl⟩, fun _ h => (by cases h)⟩⟩⟩⟩) ext_nil (fun q h => (by cases h)) (enF c41_4_k) (fun _ h => (by cases h))

noncomputable def c41_5 : Ct := (41, 2, (6, [qtN 0 0 60, qtA 1, qtN 2 0 60, qtN 3 0 60], [], [qvR 0, qvK (.negSucc 0), qvK (.ofNat 6)], zh113, []),
  [((7, [qtA 6], [], [], zh114, []), 0, 0)])
noncomputable def c41_5_e : List Ct := [c43_0]
noncomputable def c41_5_pts : List PE := []
set_option maxRecDepth 100000 in
theorem c41_5_k : enCtF c41_5 c41_5_e (pkP (c41_5_pts ++ []) []) (none) noH 3000 = true := by decide +kernel
set_option maxRecDepth 100000 in
theorem c41_5_v : ValidC PPk c41_5 := ct_ok fpk noH_ok (d := 1) (ext := []) (pts := c41_5_pts) (env := c41_5_e) rfl (List.forall_mem_cons.mpr ⟨⟨c43_0_v, Nat.le_of_ble_eq_true rfl⟩, fun _ h => (by cases h)⟩) ext_nil (fun q h => (by cases h)) (enF c41_5_k) (fun _ h => (by cases h))

noncomputable def c39_2 : Ct := (39, 20, (4, [qtN 0 0 60, qtA 1, qtN 2 0 60, qtN 3 0 60], [], [qvR 0, qvK (.ofNat 6)], zh115, []),
  [((7, [qtA 4, qtN 5 0 60, qtN 6 0 60], [], [], zh116, []), 0, 0)])
noncomputable def c39_2_e : List Ct := [c40_0, c41_4, c41_5, c44_0]
noncomputable def c39_2_p0 : PE := (13, [0, 1, 2, 3, 4], (7, [qtN 0 1 60, (1, (.negSucc 0), (.negSucc 0)), qtN 2 0 60, qtN 3 0 60, qtN 4 0 127, qtN 5 0 60, qtN 6 0 59], [((.ofNat 1), [(0, (.negSucc 0)), (6, (.ofNat 1))])], [qvR 0, qvK (.ofNat 6), qvS 2, qvS 4, qvS 5], zh119, []), symsL 4 0, some ((.ofNat 182), [(5, (.negSucc 0))]), 0, 0)
noncomputable def c39_2_p1 : PE := (13, [0, 1, 2, 3, 4], (6, [qtN 0 0 60, qtA 1, qtN 2 0 60, qtN 3 0 60, qtN 4 0 60, qtN 5 0 60], [], [qvR 0, qvK (.ofNat 6), qvS 2, qvK (.negSucc 0), qvS 4], zh117, []), symsL 4 0, some ((.ofNat 182), [(4, (.negSucc 0))]), 0, 0)
noncomputable def c39_2_p2 : PE := (71, [0, 1, 2, 3, 4, 5], (10, [qtN 0 0 60, qtA 1, qtN 2 0 60, qtN 3 0 60, (4, (.negSucc 0), (.ofNat 127)), qtN 5 0 60, (6, (.negSucc 0), (.ofNat 59)), qtA 7, qtN 8 0 60, qtN 9 0 60], [], [qvR 0, qvK (.ofNat 6), qvS 2, qvS 4, qvS 5, qvS 6], zh120, []), symsL 4 0, some ((.ofNat 62), [(6, (.ofNat 1))]), 0, 0)
noncomputable def c39_2_pts : List PE := [c39_2_p0, c39_2_p1, c39_2_p2]
set_option maxRecDepth 100000 in
theorem c39_2_k : enCtF c39_2 c39_2_e (pkP (c39_2_pts ++ []) [1, 0]) (none) (noF, noM, 2361183241434822615040, 0, 4) 3000 = true := by decide +kernel
set_option maxRecDepth 100000 in
theorem c39_2_k0 : ptCtF c39_2 c39_2_e (pkP (c39_2_pts ++ []) [2, 1, 0]) (noF, noM, 2361183241434822615040, 0, 4) 3000 c39_2_p0 = true := by decide +kernel
set_option maxRecDepth 100000 in
theorem c39_2_k1 : ptCtF c39_2 c39_2_e (pkP (c39_2_pts ++ []) [2]) (noF, noM, 2361183241434822615040, 0, 4) 3000 c39_2_p1 = true := by decide +kernel
set_option maxRecDepth 100000 in
theorem c39_2_k2 : ptCtF c39_2 c39_2_e (pkP (c39_2_pts ++ []) [2]) (noF, noM, 2361183241434822615040, 0, 4) 3000 c39_2_p2 = true := by decide +kernel
set_option maxRecDepth 100000 in
theorem c39_2_v : ValidC PPk c39_2 := ct_ok fpk ⟨noF_ok, noM_ok⟩ (d := 19) (ext := []) (pts := c39_2_pts) (env := c39_2_e) rfl (List.forall_mem_cons.mpr ⟨⟨c40_0_v, Nat.le_of_ble_eq_true rfl⟩, List.forall_mem_cons.mpr ⟨⟨c41_4_v, Nat.le_of_ble_eq_true rfl⟩, List.forall_mem_cons.mpr ⟨⟨c41_5_v, Nat.le_of_ble_eq_true rfl⟩, List.forall_mem_cons.mpr ⟨⟨c44_0_v, Nat.le_of_ble_eq_true rfl⟩, fun _ h => (by cases h)⟩⟩⟩⟩) ext_nil (fun q h => (by cases h)) (enF c39_2_k) (List.forall_mem_cons.mpr ⟨⟨_, ptF c39_2_k0⟩, List.forall_mem_cons.mpr ⟨⟨_, ptF c39_2_k1⟩, List.forall_mem_cons.mpr ⟨⟨_, ptF c39_2_k2⟩, fun _ h => (by cases h)⟩⟩⟩)

noncomputable def c38_2 : Ct := (38, 21, (4, [qtN 0 0 60, qtA 1, qtN 2 0 60, qtN 3 0 60], [], [qvR 0, qvK (.ofNat 6)], zh115, []),
  [((7, [qtA 4, qtN 5 0 60, qtN 6 0 60], [], [], zh116, []), 0, 0)])
noncomputable def c38_2_e : List Ct := [c39_2, c40_0, c44_0]
noncomputable def c38_2_p0 : PE := (7, [0, 1, 2], (7, (zt18 []), [], [qvR 0, qvK (.ofNat 6), qvK (.ofNat 0)], zh116, []), symsL 4 0, some ((.ofNat 121), []), 0, 0)
noncomputable def c38_2_p1 : PE := (7, [0, 1, 2, 3], (9, [qtN 0 1 60, qtA 1, qtN 2 0 60, qtN 3 0 60, qtN 4 1 60, qtN 5 42 47, qtA 6, qtN 7 0 60, qtN 8 1 60], [], [qvR 0, qvK (.ofNat 6), qvS 4, qvS 5], zh121, []), symsL 4 0, some ((.ofNat 121), [(4, (.negSucc 0))]), 0, 0)
noncomputable def c38_2_pts : List PE := [c38_2_p0, c38_2_p1]
set_option maxRecDepth 100000 in
theorem c38_2_k : enCtF c38_2 c38_2_e (pkP (c38_2_pts ++ []) [0]) (none) (noF, noM, 128, 0, 4) 3000 = true := by decide +kernel
set_option maxRecDepth 100000 in
theorem c38_2_k0 : ptCtF c38_2 c38_2_e (pkP (c38_2_pts ++ []) [1]) (noF, noM, 128, 0, 4) 3000 c38_2_p0 = true := by decide +kernel
set_option maxRecDepth 100000 in
theorem c38_2_k1 : ptCtF c38_2 c38_2_e (pkP (c38_2_pts ++ []) [1]) (noF, noM, 128, 0, 4) 3000 c38_2_p1 = true := by decide +kernel
set_option maxRecDepth 100000 in
theorem c38_2_v : ValidC PPk c38_2 := ct_ok fpk ⟨noF_ok, noM_ok⟩ (d := 20) (ext := []) (pts := c38_2_pts) (env := c38_2_e) rfl (List.forall_mem_cons.mpr ⟨⟨c39_2_v, Nat.le_of_ble_eq_true rfl⟩, List.forall_mem_cons.mpr ⟨⟨c40_0_v, Nat.le_of_ble_eq_true rfl⟩, List.forall_mem_cons.mpr ⟨⟨c44_0_v, Nat.le_of_ble_eq_true rfl⟩, fun _ h => (by cases h)⟩⟩⟩) ext_nil (fun q h => (by cases h)) (enF c38_2_k) (List.forall_mem_cons.mpr ⟨⟨_, ptF c38_2_k0⟩, List.forall_mem_cons.mpr ⟨⟨_, ptF c38_2_k1⟩, fun _ h => (by cases h)⟩⟩)

noncomputable def c37_2 : Ct := (37, 22, (4, [qtN 0 0 60, qtA 1, qtN 2 0 60, qtN 3 0 60], [], [qvR 0, qvK (.ofNat 6)], zh115, []),
  [((7, [qtA 4, qtN 5 0 60, qtN 6 0 60], [], [], zh116, []), 0, 0)])
noncomputable def c37_2_e : List Ct := [c38_2, c40_0, c44_0]
noncomputable def c37_2_p0 : PE := (7, [0, 1, 2], (7, (zt18 []), [], [qvR 0, qvK (.ofNat 6), qvK (.ofNat 0)], zh116, []), symsL 4 0, some ((.ofNat 121), []), 0, 0)
noncomputable def c37_2_p1 : PE := (7, [0, 1, 2, 3], (9, [qtN 0 1 60, qtA 1, qtN 2 0 60, qtN 3 0 60, qtN 4 1 60, qtN 5 43 45, qtA 6, qtN 7 0 60, qtN 8 1 60], [], [qvR 0, qvK (.ofNat 6), qvS 4, qvS 5], zh121, []), symsL 4 0, some ((.ofNat 121), [(4, (.negSucc 0))]), 0, 0)
noncomputable def c37_2_pts : List PE := [c37_2_p0, c37_2_p1]
set_option maxRecDepth 100000 in
theorem c37_2_k : enCtF c37_2 c37_2_e (pkP (c37_2_pts ++ []) [0]) (none) (noF, noM, 128, 0, 4) 3000 = true := by decide +kernel
set_option maxRecDepth 100000 in
theorem c37_2_k0 : ptCtF c37_2 c37_2_e (pkP (c37_2_pts ++ []) [1]) (noF, noM, 128, 0, 4) 3000 c37_2_p0 = true := by decide +kernel
set_option maxRecDepth 100000 in
theorem c37_2_k1 : ptCtF c37_2 c37_2_e (pkP (c37_2_pts ++ []) [1]) (noF, noM, 128, 0, 4) 3000 c37_2_p1 = true := by decide +kernel
set_option maxRecDepth 100000 in
theorem c37_2_v : ValidC PPk c37_2 := ct_ok fpk ⟨noF_ok, noM_ok⟩ (d := 21) (ext := []) (pts := c37_2_pts) (env := c37_2_e) rfl (List.forall_mem_cons.mpr ⟨⟨c38_2_v, Nat.le_of_ble_eq_true rfl⟩, List.forall_mem_cons.mpr ⟨⟨c40_0_v, Nat.le_of_ble_eq_true rfl⟩, List.forall_mem_cons.mpr ⟨⟨c44_0_v, Nat.le_of_ble_eq_true rfl⟩, fun _ h => (by cases h)⟩⟩⟩) ext_nil (fun q h => (by cases h)) (enF c37_2_k) (List.forall_mem_cons.mpr ⟨⟨_, ptF c37_2_k0⟩, List.forall_mem_cons.mpr ⟨⟨_, ptF c37_2_k1⟩, fun _ h => (by cases h)⟩⟩)

noncomputable def c36_2 : Ct := (36, 23, (4, [qtN 0 0 60, qtA 1, qtN 2 0 60, qtN 3 0 60], [], [qvR 0, qvK (.ofNat 6)], zh115, []),
  [((7, [qtA 4, qtN 5 0 60, qtN 6 0 60], [], [], zh116, []), 0, 0)])
noncomputable def c36_2_e : List Ct := [c37_2, c40_0, c44_0]
noncomputable def c36_2_pts : List PE := []
set_option maxRecDepth 100000 in
theorem c36_2_k : enCtF c36_2 c36_2_e (pkP (c36_2_pts ++ []) []) (none) noH 3000 = true := by decide +kernel
set_option maxRecDepth 100000 in
theorem c36_2_v : ValidC PPk c36_2 := ct_ok fpk noH_ok (d := 22) (ext := []) (pts := c36_2_pts) (env := c36_2_e) rfl (List.forall_mem_cons.mpr ⟨⟨c37_2_v, Nat.le_of_ble_eq_true rfl⟩, List.forall_mem_cons.mpr ⟨⟨c40_0_v, Nat.le_of_ble_eq_true rfl⟩, List.forall_mem_cons.mpr ⟨⟨c44_0_v, Nat.le_of_ble_eq_true rfl⟩, fun _ h => (by cases h)⟩⟩⟩) ext_nil (fun q h => (by cases h)) (enF c36_2_k) (fun _ h => (by cases h))

noncomputable def c35_2 : Ct := (35, 24, (4, [qtN 0 0 60, qtA 1, qtN 2 0 60, qtN 3 0 60], [], [qvR 0, qvK (.ofNat 6)], zh115, []),
  [((7, [qtA 4, qtN 5 0 60, qtN 6 0 60], [], [], zh116, []), 0, 0)])
noncomputable def c35_2_e : List Ct := [c36_2, c40_0, c44_0]
noncomputable def c35_2_p0 : PE := (7, [0, 1, 2], (8, [qtN 0 0 60, qtA 1, qtN 2 0 60, qtN 3 0 60, qtN 4 0 60, qtA 5, qtN 6 0 60, qtN 7 0 60], [], [qvR 0, qvK (.ofNat 6), qvS 4], zh118, []), symsL 4 0, some ((.ofNat 121), [(4, (.negSucc 0))]), 0, 0)
noncomputable def c35_2_pts : List PE := [c35_2_p0]
set_option maxRecDepth 100000 in
theorem c35_2_k : enCtF c35_2 c35_2_e (pkP (c35_2_pts ++ []) [0]) (none) (noF, noM, 128, 0, 4) 3000 = true := by decide +kernel
set_option maxRecDepth 100000 in
theorem c35_2_k0 : ptCtF c35_2 c35_2_e (pkP (c35_2_pts ++ []) [0]) (noF, noM, 128, 0, 4) 3000 c35_2_p0 = true := by decide +kernel
set_option maxRecDepth 100000 in
theorem c35_2_v : ValidC PPk c35_2 := ct_ok fpk ⟨noF_ok, noM_ok⟩ (d := 23) (ext := []) (pts := c35_2_pts) (env := c35_2_e) rfl (List.forall_mem_cons.mpr ⟨⟨c36_2_v, Nat.le_of_ble_eq_true rfl⟩, List.forall_mem_cons.mpr ⟨⟨c40_0_v, Nat.le_of_ble_eq_true rfl⟩, List.forall_mem_cons.mpr ⟨⟨c44_0_v, Nat.le_of_ble_eq_true rfl⟩, fun _ h => (by cases h)⟩⟩⟩) ext_nil (fun q h => (by cases h)) (enF c35_2_k) (List.forall_mem_cons.mpr ⟨⟨_, ptF c35_2_k0⟩, fun _ h => (by cases h)⟩)

noncomputable def c34_2 : Ct := (34, 25, (4, [qtN 0 0 60, qtA 1, qtN 2 0 60, qtN 3 0 60], [], [qvR 0, qvK (.ofNat 6)], zh115, []),
  [((7, [qtA 4, qtN 5 0 60, qtN 6 0 60], [], [], zh116, []), 0, 0)])
noncomputable def c34_2_e : List Ct := [c35_2, c40_0, c44_0]
noncomputable def c34_2_p0 : PE := (7, [0, 1, 2], (8, [qtN 0 0 60, qtA 1, qtN 2 0 60, qtN 3 0 60, qtN 4 0 60, qtA 5, qtN 6 0 60, qtN 7 0 60], [], [qvR 0, qvK (.ofNat 6), qvS 4], zh118, []), symsL 4 0, some ((.ofNat 121), [(4, (.negSucc 0))]), 0, 0)
noncomputable def c34_2_pts : List PE := [c34_2_p0]
set_option maxRecDepth 100000 in
theorem c34_2_k : enCtF c34_2 c34_2_e (pkP (c34_2_pts ++ []) [0]) (none) (noF, noM, 128, 0, 4) 3000 = true := by decide +kernel
set_option maxRecDepth 100000 in
theorem c34_2_k0 : ptCtF c34_2 c34_2_e (pkP (c34_2_pts ++ []) [0]) (noF, noM, 128, 0, 4) 3000 c34_2_p0 = true := by decide +kernel
set_option maxRecDepth 100000 in
theorem c34_2_v : ValidC PPk c34_2 := ct_ok fpk ⟨noF_ok, noM_ok⟩ (d := 24) (ext := []) (pts := c34_2_pts) (env := c34_2_e) rfl (List.forall_mem_cons.mpr ⟨⟨c35_2_v, Nat.le_of_ble_eq_true rfl⟩, List.forall_mem_cons.mpr ⟨⟨c40_0_v, Nat.le_of_ble_eq_true rfl⟩, List.forall_mem_cons.mpr ⟨⟨c44_0_v, Nat.le_of_ble_eq_true rfl⟩, fun _ h => (by cases h)⟩⟩⟩) ext_nil (fun q h => (by cases h)) (enF c34_2_k) (List.forall_mem_cons.mpr ⟨⟨_, ptF c34_2_k0⟩, fun _ h => (by cases h)⟩)

noncomputable def c45_3 : Ct := (45, 26, (4, [qtN 0 0 60, qtA 1, qtN 2 0 60, qtN 3 0 60], [((.ofNat 1), [(0, (.negSucc 0)), (2, (.ofNat 1))])], [qvR 0, qvK (.ofNat 5)], zh115, []),
  [((7, [qtA 4, qtN 5 0 60, qtN 6 0 60], [], [], zh116, []), 0, 0)])
noncomputable def c45_3_e : List Ct := [c34_2, c40_0, c43_0]
noncomputable def c45_3_pts : List PE := []
set_option maxRecDepth 100000 in
theorem c45_3_k : enCtF c45_3 c45_3_e (pkP (c45_3_pts ++ []) []) (none) noH 3000 = true := by decide +kernel
set_option maxRecDepth 100000 in
theorem c45_3_v : ValidC PPk c45_3 := ct_ok fpk noH_ok (d := 25) (ext := []) (pts := c45_3_pts) (env := c45_3_e) rfl (List.forall_mem_cons.mpr ⟨⟨c34_2_v, Nat.le_of_ble_eq_true rfl⟩, List.forall_mem_cons.mpr ⟨⟨c40_0_v, Nat.le_of_ble_eq_true rfl⟩, List.forall_mem_cons.mpr ⟨⟨c43_0_v, Nat.le_of_ble_eq_true rfl⟩, fun _ h => (by cases h)⟩⟩⟩) ext_nil (fun q h => (by cases h)) (enF c45_3_k) (fun _ h => (by cases h))

noncomputable def c41_6 : Ct := (41, 27, (5, [qtN 0 0 60, qtA 1, qtN 2 0 60, qtN 3 0 60, qtA 4], [((.ofNat 1), [(0, (.negSucc 0)), (2, (.ofNat 1))])], [qvR 0, qvS 4, qvK (.ofNat 5)], zh115, []),
  [((8, [qtA 5, qtN 6 0 60, qtN 7 0 60], [], [], zh118, []), 0, 0)])
noncomputable def c41_6_e : List Ct := [c42_0, c43_0, c44_0, c45_3]
noncomputable def c41_6_pts : List PE := []
set_option maxRecDepth 100000 in
theorem c41_6_k : enCtF c41_6 c41_6_e (pkP (c41_6_pts ++ []) []) (none) noH 3000 = true := by decide +kernel
set_option maxRecDepth 100000 in
theorem c41_6_v : ValidC PPk c41_6 := ct_ok fpk noH_ok (d := 26) (ext := []) (pts := c41_6_pts) (env := c41_6_e) rfl (List.forall_mem_cons.mpr ⟨⟨c42_0_v, Nat.le_of_ble_eq_true rfl⟩, List.forall_mem_cons.mpr ⟨⟨c43_0_v, Nat.le_of_ble_eq_true rfl⟩, List.forall_mem_cons.mpr ⟨⟨c44_0_v, Nat.le_of_ble_eq_true rfl⟩, List.forall_mem_cons.mpr ⟨⟨c45_3_v, Nat.le_of_ble_eq_true rfl⟩, fun _ h => (by cases h)⟩⟩⟩⟩) ext_nil (fun q h => (by cases h)) (enF c41_6_k) (fun _ h => (by cases h))

noncomputable def c41_7 : Ct := (41, 2, (6, [qtN 0 0 60, qtA 1, qtN 2 0 60, qtN 3 0 60], [], [qvR 0, qvK (.negSucc 0), qvK (.ofNat 5)], zh113, []),
  [((7, [qtA 6], [], [], zh114, []), 0, 0)])
noncomputable def c41_7_e : List Ct := [c43_0]
noncomputable def c41_7_pts : List PE := []
set_option maxRecDepth 100000 in
theorem c41_7_k : enCtF c41_7 c41_7_e (pkP (c41_7_pts ++ []) []) (none) noH 3000 = true := by decide +kernel
set_option maxRecDepth 100000 in
theorem c41_7_v : ValidC PPk c41_7 := ct_ok fpk noH_ok (d := 1) (ext := []) (pts := c41_7_pts) (env := c41_7_e) rfl (List.forall_mem_cons.mpr ⟨⟨c43_0_v, Nat.le_of_ble_eq_true rfl⟩, fun _ h => (by cases h)⟩) ext_nil (fun q h => (by cases h)) (enF c41_7_k) (fun _ h => (by cases h))

noncomputable def c39_3 : Ct := (39, 28, (4, [qtN 0 0 60, qtA 1, qtN 2 0 60, qtN 3 0 60], [], [qvR 0, qvK (.ofNat 5)], zh115, []),
  [((7, [qtA 4, qtN 5 0 60, qtN 6 0 60], [], [], zh116, []), 0, 0)])
noncomputable def c39_3_e : List Ct := [c40_0, c41_6, c41_7, c44_0]
noncomputable def c39_3_p0 : PE := (13, [0, 1, 2, 3, 4], (7, [qtN 0 1 60, (1, (.negSucc 0), (.negSucc 0)), qtN 2 0 60, qtN 3 0 60, qtN 4 0 127, qtN 5 0 60, qtN 6 0 59], [((.ofNat 1), [(0, (.negSucc 0)), (6, (.ofNat 1))])], [qvR 0, qvK (.ofNat 5), qvS 2, qvS 4, qvS 5], zh119, []), symsL 4 0, some ((.ofNat 182), [(5, (.negSucc 0))]), 0, 0)
noncomputable def c39_3_p1 : PE := (13, [0, 1, 2, 3, 4], (6, [qtN 0 0 60, qtA 1, qtN 2 0 60, qtN 3 0 60, qtN 4 0 60, qtN 5 0 60], [], [qvR 0, qvK (.ofNat 5), qvS 2, qvK (.negSucc 0), qvS 4], zh117, []), symsL 4 0, some ((.ofNat 182), [(4, (.negSucc 0))]), 0, 0)
noncomputable def c39_3_p2 : PE := (71, [0, 1, 2, 3, 4, 5], (10, [qtN 0 0 60, qtA 1, qtN 2 0 60, qtN 3 0 60, (4, (.negSucc 0), (.ofNat 127)), qtN 5 0 60, (6, (.negSucc 0), (.ofNat 59)), qtA 7, qtN 8 0 60, qtN 9 0 60], [], [qvR 0, qvK (.ofNat 5), qvS 2, qvS 4, qvS 5, qvS 6], zh120, []), symsL 4 0, some ((.ofNat 62), [(6, (.ofNat 1))]), 0, 0)
noncomputable def c39_3_pts : List PE := [c39_3_p0, c39_3_p1, c39_3_p2]
set_option maxRecDepth 100000 in
theorem c39_3_k : enCtF c39_3 c39_3_e (pkP (c39_3_pts ++ []) [1, 0]) (none) (noF, noM, 2361183241434822615040, 0, 4) 3000 = true := by decide +kernel
set_option maxRecDepth 100000 in
theorem c39_3_k0 : ptCtF c39_3 c39_3_e (pkP (c39_3_pts ++ []) [2, 1, 0]) (noF, noM, 2361183241434822615040, 0, 4) 3000 c39_3_p0 = true := by decide +kernel
set_option maxRecDepth 100000 in
theorem c39_3_k1 : ptCtF c39_3 c39_3_e (pkP (c39_3_pts ++ []) [2]) (noF, noM, 2361183241434822615040, 0, 4) 3000 c39_3_p1 = true := by decide +kernel
set_option maxRecDepth 100000 in
theorem c39_3_k2 : ptCtF c39_3 c39_3_e (pkP (c39_3_pts ++ []) [2]) (noF, noM, 2361183241434822615040, 0, 4) 3000 c39_3_p2 = true := by decide +kernel
set_option maxRecDepth 100000 in
theorem c39_3_v : ValidC PPk c39_3 := ct_ok fpk ⟨noF_ok, noM_ok⟩ (d := 27) (ext := []) (pts := c39_3_pts) (env := c39_3_e) rfl (List.forall_mem_cons.mpr ⟨⟨c40_0_v, Nat.le_of_ble_eq_true rfl⟩, List.forall_mem_cons.mpr ⟨⟨c41_6_v, Nat.le_of_ble_eq_true rfl⟩, List.forall_mem_cons.mpr ⟨⟨c41_7_v, Nat.le_of_ble_eq_true rfl⟩, List.forall_mem_cons.mpr ⟨⟨c44_0_v, Nat.le_of_ble_eq_true rfl⟩, fun _ h => (by cases h)⟩⟩⟩⟩) ext_nil (fun q h => (by cases h)) (enF c39_3_k) (List.forall_mem_cons.mpr ⟨⟨_, ptF c39_3_k0⟩, List.forall_mem_cons.mpr ⟨⟨_, ptF c39_3_k1⟩, List.forall_mem_cons.mpr ⟨⟨_, ptF c39_3_k2⟩, fun _ h => (by cases h)⟩⟩⟩)

noncomputable def c38_3 : Ct := (38, 29, (4, [qtN 0 0 60, qtA 1, qtN 2 0 60, qtN 3 0 60], [], [qvR 0, qvK (.ofNat 5)], zh115, []),
  [((7, [qtA 4, qtN 5 0 60, qtN 6 0 60], [], [], zh116, []), 0, 0)])
noncomputable def c38_3_e : List Ct := [c39_3, c40_0, c44_0]
noncomputable def c38_3_p0 : PE := (7, [0, 1, 2], (7, (zt18 []), [], [qvR 0, qvK (.ofNat 5), qvK (.ofNat 0)], zh116, []), symsL 4 0, some ((.ofNat 121), []), 0, 0)
noncomputable def c38_3_p1 : PE := (7, [0, 1, 2, 3], (9, [qtN 0 1 60, qtA 1, qtN 2 0 60, qtN 3 0 60, qtN 4 1 60, qtN 5 42 47, qtA 6, qtN 7 0 60, qtN 8 1 60], [], [qvR 0, qvK (.ofNat 5), qvS 4, qvS 5], zh121, []), symsL 4 0, some ((.ofNat 121), [(4, (.negSucc 0))]), 0, 0)
noncomputable def c38_3_pts : List PE := [c38_3_p0, c38_3_p1]
set_option maxRecDepth 100000 in
theorem c38_3_k : enCtF c38_3 c38_3_e (pkP (c38_3_pts ++ []) [0]) (none) (noF, noM, 128, 0, 4) 3000 = true := by decide +kernel
set_option maxRecDepth 100000 in
theorem c38_3_k0 : ptCtF c38_3 c38_3_e (pkP (c38_3_pts ++ []) [1]) (noF, noM, 128, 0, 4) 3000 c38_3_p0 = true := by decide +kernel
set_option maxRecDepth 100000 in
theorem c38_3_k1 : ptCtF c38_3 c38_3_e (pkP (c38_3_pts ++ []) [1]) (noF, noM, 128, 0, 4) 3000 c38_3_p1 = true := by decide +kernel
set_option maxRecDepth 100000 in
theorem c38_3_v : ValidC PPk c38_3 := ct_ok fpk ⟨noF_ok, noM_ok⟩ (d := 28) (ext := []) (pts := c38_3_pts) (env := c38_3_e) rfl (List.forall_mem_cons.mpr ⟨⟨c39_3_v, Nat.le_of_ble_eq_true rfl⟩, List.forall_mem_cons.mpr ⟨⟨c40_0_v, Nat.le_of_ble_eq_true rfl⟩, List.forall_mem_cons.mpr ⟨⟨c44_0_v, Nat.le_of_ble_eq_true rfl⟩, fun _ h => (by cases h)⟩⟩⟩) ext_nil (fun q h => (by cases h)) (enF c38_3_k) (List.forall_mem_cons.mpr ⟨⟨_, ptF c38_3_k0⟩, List.forall_mem_cons.mpr ⟨⟨_, ptF c38_3_k1⟩, fun _ h => (by cases h)⟩⟩)

noncomputable def c37_3 : Ct := (37, 30, (4, [qtN 0 0 60, qtA 1, qtN 2 0 60, qtN 3 0 60], [], [qvR 0, qvK (.ofNat 5)], zh115, []),
  [((7, [qtA 4, qtN 5 0 60, qtN 6 0 60], [], [], zh116, []), 0, 0)])
noncomputable def c37_3_e : List Ct := [c38_3, c40_0, c44_0]
noncomputable def c37_3_p0 : PE := (7, [0, 1, 2], (7, (zt18 []), [], [qvR 0, qvK (.ofNat 5), qvK (.ofNat 0)], zh116, []), symsL 4 0, some ((.ofNat 121), []), 0, 0)
noncomputable def c37_3_p1 : PE := (7, [0, 1, 2, 3], (9, [qtN 0 1 60, qtA 1, qtN 2 0 60, qtN 3 0 60, qtN 4 1 60, qtN 5 43 45, qtA 6, qtN 7 0 60, qtN 8 1 60], [], [qvR 0, qvK (.ofNat 5), qvS 4, qvS 5], zh121, []), symsL 4 0, some ((.ofNat 121), [(4, (.negSucc 0))]), 0, 0)
noncomputable def c37_3_pts : List PE := [c37_3_p0, c37_3_p1]
set_option maxRecDepth 100000 in
theorem c37_3_k : enCtF c37_3 c37_3_e (pkP (c37_3_pts ++ []) [0]) (none) (noF, noM, 128, 0, 4) 3000 = true := by decide +kernel
set_option maxRecDepth 100000 in
theorem c37_3_k0 : ptCtF c37_3 c37_3_e (pkP (c37_3_pts ++ []) [1]) (noF, noM, 128, 0, 4) 3000 c37_3_p0 = true := by decide +kernel
set_option maxRecDepth 100000 in
theorem c37_3_k1 : ptCtF c37_3 c37_3_e (pkP (c37_3_pts ++ []) [1]) (noF, noM, 128, 0, 4) 3000 c37_3_p1 = true := by decide +kernel
set_option maxRecDepth 100000 in
theorem c37_3_v : ValidC PPk c37_3 := ct_ok fpk ⟨noF_ok, noM_ok⟩ (d := 29) (ext := []) (pts := c37_3_pts) (env := c37_3_e) rfl (List.forall_mem_cons.mpr ⟨⟨c38_3_v, Nat.le_of_ble_eq_true rfl⟩, List.forall_mem_cons.mpr ⟨⟨c40_0_v, Nat.le_of_ble_eq_true rfl⟩, List.forall_mem_cons.mpr ⟨⟨c44_0_v, Nat.le_of_ble_eq_true rfl⟩, fun _ h => (by cases h)⟩⟩⟩) ext_nil (fun q h => (by cases h)) (enF c37_3_k) (List.forall_mem_cons.mpr ⟨⟨_, ptF c37_3_k0⟩, List.forall_mem_cons.mpr ⟨⟨_, ptF c37_3_k1⟩, fun _ h => (by cases h)⟩⟩)

noncomputable def c36_3 : Ct := (36, 31, (4, [qtN 0 0 60, qtA 1, qtN 2 0 60, qtN 3 0 60], [], [qvR 0, qvK (.ofNat 5)], zh115, []),
  [((7, [qtA 4, qtN 5 0 60, qtN 6 0 60], [], [], zh116, []), 0, 0)])
noncomputable def c36_3_e : List Ct := [c37_3, c40_0, c44_0]
noncomputable def c36_3_pts : List PE := []
set_option maxRecDepth 100000 in
theorem c36_3_k : enCtF c36_3 c36_3_e (pkP (c36_3_pts ++ []) []) (none) noH 3000 = true := by decide +kernel
set_option maxRecDepth 100000 in
theorem c36_3_v : ValidC PPk c36_3 := ct_ok fpk noH_ok (d := 30) (ext := []) (pts := c36_3_pts) (env := c36_3_e) rfl (List.forall_mem_cons.mpr ⟨⟨c37_3_v, Nat.le_of_ble_eq_true rfl⟩, List.forall_mem_cons.mpr ⟨⟨c40_0_v, Nat.le_of_ble_eq_true rfl⟩, List.forall_mem_cons.mpr ⟨⟨c44_0_v, Nat.le_of_ble_eq_true rfl⟩, fun _ h => (by cases h)⟩⟩⟩) ext_nil (fun q h => (by cases h)) (enF c36_3_k) (fun _ h => (by cases h))

noncomputable def c35_3 : Ct := (35, 32, (4, [qtN 0 0 60, qtA 1, qtN 2 0 60, qtN 3 0 60], [], [qvR 0, qvK (.ofNat 5)], zh115, []),
  [((7, [qtA 4, qtN 5 0 60, qtN 6 0 60], [], [], zh116, []), 0, 0)])
noncomputable def c35_3_e : List Ct := [c36_3, c40_0, c44_0]
noncomputable def c35_3_p0 : PE := (7, [0, 1, 2], (8, [qtN 0 0 60, qtA 1, qtN 2 0 60, qtN 3 0 60, qtN 4 0 60, qtA 5, qtN 6 0 60, qtN 7 0 60], [], [qvR 0, qvK (.ofNat 5), qvS 4], zh118, []), symsL 4 0, some ((.ofNat 121), [(4, (.negSucc 0))]), 0, 0)
noncomputable def c35_3_pts : List PE := [c35_3_p0]
set_option maxRecDepth 100000 in
theorem c35_3_k : enCtF c35_3 c35_3_e (pkP (c35_3_pts ++ []) [0]) (none) (noF, noM, 128, 0, 4) 3000 = true := by decide +kernel
set_option maxRecDepth 100000 in
theorem c35_3_k0 : ptCtF c35_3 c35_3_e (pkP (c35_3_pts ++ []) [0]) (noF, noM, 128, 0, 4) 3000 c35_3_p0 = true := by decide +kernel
set_option maxRecDepth 100000 in
theorem c35_3_v : ValidC PPk c35_3 := ct_ok fpk ⟨noF_ok, noM_ok⟩ (d := 31) (ext := []) (pts := c35_3_pts) (env := c35_3_e) rfl (List.forall_mem_cons.mpr ⟨⟨c36_3_v, Nat.le_of_ble_eq_true rfl⟩, List.forall_mem_cons.mpr ⟨⟨c40_0_v, Nat.le_of_ble_eq_true rfl⟩, List.forall_mem_cons.mpr ⟨⟨c44_0_v, Nat.le_of_ble_eq_true rfl⟩, fun _ h => (by cases h)⟩⟩⟩) ext_nil (fun q h => (by cases h)) (enF c35_3_k) (List.forall_mem_cons.mpr ⟨⟨_, ptF c35_3_k0⟩, fun _ h => (by cases h)⟩)

noncomputable def c34_3 : Ct := (34, 33, (4, [qtN 0 0 60, qtA 1, qtN 2 0 60, qtN 3 0 60], [], [qvR 0, qvK (.ofNat 5)], zh115, []),
  [((7, [qtA 4, qtN 5 0 60, qtN 6 0 60], [], [], zh116, []), 0, 0)])
noncomputable def c34_3_e : List Ct := [c35_3, c40_0, c44_0]
noncomputable def c34_3_p0 : PE := (7, [0, 1, 2], (8, [qtN 0 0 60, qtA 1, qtN 2 0 60, qtN 3 0 60, qtN 4 0 60, qtA 5, qtN 6 0 60, qtN 7 0 60], [], [qvR 0, qvK (.ofNat 5), qvS 4], zh118, []), symsL 4 0, some ((.ofNat 121), [(4, (.negSucc 0))]), 0, 0)
noncomputable def c34_3_pts : List PE := [c34_3_p0]
set_option maxRecDepth 100000 in
theorem c34_3_k : enCtF c34_3 c34_3_e (pkP (c34_3_pts ++ []) [0]) (none) (noF, noM, 128, 0, 4) 3000 = true := by decide +kernel
set_option maxRecDepth 100000 in
theorem c34_3_k0 : ptCtF c34_3 c34_3_e (pkP (c34_3_pts ++ []) [0]) (noF, noM, 128, 0, 4) 3000 c34_3_p0 = true := by decide +kernel
set_option maxRecDepth 100000 in
theorem c34_3_v : ValidC PPk c34_3 := ct_ok fpk ⟨noF_ok, noM_ok⟩ (d := 32) (ext := []) (pts := c34_3_pts) (env := c34_3_e) rfl (List.forall_mem_cons.mpr ⟨⟨c35_3_v, Nat.le_of_ble_eq_true rfl⟩, List.forall_mem_cons.mpr ⟨⟨c40_0_v, Nat.le_of_ble_eq_true rfl⟩, List.forall_mem_cons.mpr ⟨⟨c44_0_v, Nat.le_of_ble_eq_true rfl⟩, fun _ h => (by cases h)⟩⟩⟩) ext_nil (fun q h => (by cases h)) (enF c34_3_k) (List.forall_mem_cons.mpr ⟨⟨_, ptF c34_3_k0⟩, fun _ h => (by cases h)⟩)

noncomputable def c45_4 : Ct := (45, 34, (4, [qtN 0 0 60, qtA 1, qtN 2 0 60, qtN 3 0 60], [((.ofNat 1), [(0, (.negSucc 0)), (2, (.ofNat 1))])], [qvR 0, qvK (.ofNat 4)], zh115, []),
  [((7, [qtA 4, qtN 5 0 60, qtN 6 0 60], [], [], zh116, []), 0, 0)])
noncomputable def c45_4_e : List Ct := [c34_3, c40_0, c43_0]
noncomputable def c45_4_pts : List PE := []
set_option maxRecDepth 100000 in
theorem c45_4_k : enCtF c45_4 c45_4_e (pkP (c45_4_pts ++ []) []) (none) noH 3000 = true := by decide +kernel
set_option maxRecDepth 100000 in
theorem c45_4_v : ValidC PPk c45_4 := ct_ok fpk noH_ok (d := 33) (ext := []) (pts := c45_4_pts) (env := c45_4_e) rfl (List.forall_mem_cons.mpr ⟨⟨c34_3_v, Nat.le_of_ble_eq_true rfl⟩, List.forall_mem_cons.mpr ⟨⟨c40_0_v, Nat.le_of_ble_eq_true rfl⟩, List.forall_mem_cons.mpr ⟨⟨c43_0_v, Nat.le_of_ble_eq_true rfl⟩, fun _ h => (by cases h)⟩⟩⟩) ext_nil (fun q h => (by cases h)) (enF c45_4_k) (fun _ h => (by cases h))

noncomputable def c41_8 : Ct := (41, 35, (5, [qtN 0 0 60, qtA 1, qtN 2 0 60, qtN 3 0 60, qtA 4], [((.ofNat 1), [(0, (.negSucc 0)), (2, (.ofNat 1))])], [qvR 0, qvS 4, qvK (.ofNat 4)], zh115, []),
  [((8, [qtA 5, qtN 6 0 60, qtN 7 0 60], [], [], zh118, []), 0, 0)])
noncomputable def c41_8_e : List Ct := [c42_0, c43_0, c44_0, c45_4]
noncomputable def c41_8_pts : List PE := []
set_option maxRecDepth 100000 in
theorem c41_8_k : enCtF c41_8 c41_8_e (pkP (c41_8_pts ++ []) []) (none) noH 3000 = true := by decide +kernel
set_option maxRecDepth 100000 in
theorem c41_8_v : ValidC PPk c41_8 := ct_ok fpk noH_ok (d := 34) (ext := []) (pts := c41_8_pts) (env := c41_8_e) rfl (List.forall_mem_cons.mpr ⟨⟨c42_0_v, Nat.le_of_ble_eq_true rfl⟩, List.forall_mem_cons.mpr ⟨⟨c43_0_v, Nat.le_of_ble_eq_true rfl⟩, List.forall_mem_cons.mpr ⟨⟨c44_0_v, Nat.le_of_ble_eq_true rfl⟩, List.forall_mem_cons.mpr ⟨⟨c45_4_v, Nat.le_of_ble_eq_true rfl⟩, fun _ h => (by cases h)⟩⟩⟩⟩) ext_nil (fun q h => (by cases h)) (enF c41_8_k) (fun _ h => (by cases h))

noncomputable def c41_9 : Ct := (41, 2, (6, [qtN 0 0 60, qtA 1, qtN 2 0 60, qtN 3 0 60], [], [qvR 0, qvK (.negSucc 0), qvK (.ofNat 4)], zh113, []),
  [((7, [qtA 6], [], [], zh114, []), 0, 0)])
noncomputable def c41_9_e : List Ct := [c43_0]
noncomputable def c41_9_pts : List PE := []
set_option maxRecDepth 100000 in
theorem c41_9_k : enCtF c41_9 c41_9_e (pkP (c41_9_pts ++ []) []) (none) noH 3000 = true := by decide +kernel
set_option maxRecDepth 100000 in
theorem c41_9_v : ValidC PPk c41_9 := ct_ok fpk noH_ok (d := 1) (ext := []) (pts := c41_9_pts) (env := c41_9_e) rfl (List.forall_mem_cons.mpr ⟨⟨c43_0_v, Nat.le_of_ble_eq_true rfl⟩, fun _ h => (by cases h)⟩) ext_nil (fun q h => (by cases h)) (enF c41_9_k) (fun _ h => (by cases h))

noncomputable def c39_4 : Ct := (39, 36, (4, [qtN 0 0 60, qtA 1, qtN 2 0 60, qtN 3 0 60], [], [qvR 0, qvK (.ofNat 4)], zh115, []),
  [((7, [qtA 4, qtN 5 0 60, qtN 6 0 60], [], [], zh116, []), 0, 0)])
noncomputable def c39_4_e : List Ct := [c40_0, c41_8, c41_9, c44_0]
noncomputable def c39_4_p0 : PE := (13, [0, 1, 2, 3, 4], (7, [qtN 0 1 60, (1, (.negSucc 0), (.negSucc 0)), qtN 2 0 60, qtN 3 0 60, qtN 4 0 127, qtN 5 0 60, qtN 6 0 59], [((.ofNat 1), [(0, (.negSucc 0)), (6, (.ofNat 1))])], [qvR 0, qvK (.ofNat 4), qvS 2, qvS 4, qvS 5], zh119, []), symsL 4 0, some ((.ofNat 182), [(5, (.negSucc 0))]), 0, 0)
noncomputable def c39_4_p1 : PE := (13, [0, 1, 2, 3, 4], (6, [qtN 0 0 60, qtA 1, qtN 2 0 60, qtN 3 0 60, qtN 4 0 60, qtN 5 0 60], [], [qvR 0, qvK (.ofNat 4), qvS 2, qvK (.negSucc 0), qvS 4], zh117, []), symsL 4 0, some ((.ofNat 182), [(4, (.negSucc 0))]), 0, 0)
noncomputable def c39_4_p2 : PE := (71, [0, 1, 2, 3, 4, 5], (10, [qtN 0 0 60, qtA 1, qtN 2 0 60, qtN 3 0 60, (4, (.negSucc 0), (.ofNat 127)), qtN 5 0 60, (6, (.negSucc 0), (.ofNat 59)), qtA 7, qtN 8 0 60, qtN 9 0 60], [], [qvR 0, qvK (.ofNat 4), qvS 2, qvS 4, qvS 5, qvS 6], zh120, []), symsL 4 0, some ((.ofNat 62), [(6, (.ofNat 1))]), 0, 0)
noncomputable def c39_4_pts : List PE := [c39_4_p0, c39_4_p1, c39_4_p2]
set_option maxRecDepth 100000 in
theorem c39_4_k : enCtF c39_4 c39_4_e (pkP (c39_4_pts ++ []) [1, 0]) (none) (noF, noM, 2361183241434822615040, 0, 4) 3000 = true := by decide +kernel
set_option maxRecDepth 100000 in
theorem c39_4_k0 : ptCtF c39_4 c39_4_e (pkP (c39_4_pts ++ []) [2, 1, 0]) (noF, noM, 2361183241434822615040, 0, 4) 3000 c39_4_p0 = true := by decide +kernel
set_option maxRecDepth 100000 in
theorem c39_4_k1 : ptCtF c39_4 c39_4_e (pkP (c39_4_pts ++ []) [2]) (noF, noM, 2361183241434822615040, 0, 4) 3000 c39_4_p1 = true := by decide +kernel
set_option maxRecDepth 100000 in
theorem c39_4_k2 : ptCtF c39_4 c39_4_e (pkP (c39_4_pts ++ []) [2]) (noF, noM, 2361183241434822615040, 0, 4) 3000 c39_4_p2 = true := by decide +kernel
set_option maxRecDepth 100000 in
theorem c39_4_v : ValidC PPk c39_4 := ct_ok fpk ⟨noF_ok, noM_ok⟩ (d := 35) (ext := []) (pts := c39_4_pts) (env := c39_4_e) rfl (List.forall_mem_cons.mpr ⟨⟨c40_0_v, Nat.le_of_ble_eq_true rfl⟩, List.forall_mem_cons.mpr ⟨⟨c41_8_v, Nat.le_of_ble_eq_true rfl⟩, List.forall_mem_cons.mpr ⟨⟨c41_9_v, Nat.le_of_ble_eq_true rfl⟩, List.forall_mem_cons.mpr ⟨⟨c44_0_v, Nat.le_of_ble_eq_true rfl⟩, fun _ h => (by cases h)⟩⟩⟩⟩) ext_nil (fun q h => (by cases h)) (enF c39_4_k) (List.forall_mem_cons.mpr ⟨⟨_, ptF c39_4_k0⟩, List.forall_mem_cons.mpr ⟨⟨_, ptF c39_4_k1⟩, List.forall_mem_cons.mpr ⟨⟨_, ptF c39_4_k2⟩, fun _ h => (by cases h)⟩⟩⟩)

noncomputable def c38_4 : Ct := (38, 37, (4, [qtN 0 0 60, qtA 1, qtN 2 0 60, qtN 3 0 60], [], [qvR 0, qvK (.ofNat 4)], zh115, []),
  [((7, [qtA 4, qtN 5 0 60, qtN 6 0 60], [], [], zh116, []), 0, 0)])
noncomputable def c38_4_e : List Ct := [c39_4, c40_0, c44_0]
noncomputable def c38_4_p0 : PE := (7, [0, 1, 2], (7, (zt18 []), [], [qvR 0, qvK (.ofNat 4), qvK (.ofNat 0)], zh116, []), symsL 4 0, some ((.ofNat 121), []), 0, 0)
noncomputable def c38_4_p1 : PE := (7, [0, 1, 2, 3], (9, [qtN 0 1 60, qtA 1, qtN 2 0 60, qtN 3 0 60, qtN 4 1 60, qtN 5 42 47, qtA 6, qtN 7 0 60, qtN 8 1 60], [], [qvR 0, qvK (.ofNat 4), qvS 4, qvS 5], zh121, []), symsL 4 0, some ((.ofNat 121), [(4, (.negSucc 0))]), 0, 0)
noncomputable def c38_4_pts : List PE := [c38_4_p0, c38_4_p1]
set_option maxRecDepth 100000 in
theorem c38_4_k : enCtF c38_4 c38_4_e (pkP (c38_4_pts ++ []) [0]) (none) (noF, noM, 128, 0, 4) 3000 = true := by decide +kernel
set_option maxRecDepth 100000 in
theorem c38_4_k0 : ptCtF c38_4 c38_4_e (pkP (c38_4_pts ++ []) [1]) (noF, noM, 128, 0, 4) 3000 c38_4_p0 = true := by decide +kernel
set_option maxRecDepth 100000 in
theorem c38_4_k1 : ptCtF c38_4 c38_4_e (pkP (c38_4_pts ++ []) [1]) (noF, noM, 128, 0, 4) 3000 c38_4_p1 = true := by decide +kernel
set_option maxRecDepth 100000 in
theorem c38_4_v : ValidC PPk c38_4 := ct_ok fpk ⟨noF_ok, noM_ok⟩ (d := 36) (ext := []) (pts := c38_4_pts) (env := c38_4_e) rfl (List.forall_mem_cons.mpr ⟨⟨c39_4_v, Nat.le_of_ble_eq_true rfl⟩, List.forall_mem_cons.mpr ⟨⟨c40_0_v, Nat.le_of_ble_eq_true rfl⟩, List.forall_mem_cons.mpr ⟨⟨c44_0_v, Nat.le_of_ble_eq_true rfl⟩, fun _ h => (by cases h)⟩⟩⟩) ext_nil (fun q h => (by cases h)) (enF c38_4_k) (List.forall_mem_cons.mpr ⟨⟨_, ptF c38_4_k0⟩, List.forall_mem_cons.mpr ⟨⟨_, ptF c38_4_k1⟩, fun _ h => (by cases h)⟩⟩)

noncomputable def c37_4 : Ct := (37, 38, (4, [qtN 0 0 60, qtA 1, qtN 2 0 60, qtN 3 0 60], [], [qvR 0, qvK (.ofNat 4)], zh115, []),
  [((7, [qtA 4, qtN 5 0 60, qtN 6 0 60], [], [], zh116, []), 0, 0)])
noncomputable def c37_4_e : List Ct := [c38_4, c40_0, c44_0]
noncomputable def c37_4_p0 : PE := (7, [0, 1, 2], (7, (zt18 []), [], [qvR 0, qvK (.ofNat 4), qvK (.ofNat 0)], zh116, []), symsL 4 0, some ((.ofNat 121), []), 0, 0)
noncomputable def c37_4_p1 : PE := (7, [0, 1, 2, 3], (9, [qtN 0 1 60, qtA 1, qtN 2 0 60, qtN 3 0 60, qtN 4 1 60, qtN 5 43 45, qtA 6, qtN 7 0 60, qtN 8 1 60], [], [qvR 0, qvK (.ofNat 4), qvS 4, qvS 5], zh121, []), symsL 4 0, some ((.ofNat 121), [(4, (.negSucc 0))]), 0, 0)
noncomputable def c37_4_pts : List PE := [c37_4_p0, c37_4_p1]
set_option maxRecDepth 100000 in
theorem c37_4_k : enCtF c37_4 c37_4_e (pkP (c37_4_pts ++ []) [0]) (none) (noF, noM, 128, 0, 4) 3000 = true := by decide +kernel
set_option maxRecDepth 100000 in
theorem c37_4_k0 : ptCtF c37_4 c37_4_e (pkP (c37_4_pts ++ []) [1]) (noF, noM, 128, 0, 4) 3000 c37_4_p0 = true := by decide +kernel
set_option maxRecDepth 100000 in
theorem c37_4_k1 : ptCtF c37_4 c37_4_e (pkP (c37_4_pts ++ []) [1]) (noF, noM, 128, 0, 4) 3000 c37_4_p1 = true := by decide +kernel
set_option maxRecDepth 100000 in
theorem c37_4_v : ValidC PPk c37_4 := ct_ok fpk ⟨noF_ok, noM_ok⟩ (d := 37) (ext := []) (pts := c37_4_pts) (env := c37_4_e) rfl (List.forall_mem_cons.mpr ⟨⟨c38_4_v, Nat.le_of_ble_eq_true rfl⟩, List.forall_mem_cons.mpr ⟨⟨c40_0_v, Nat.le_of_ble_eq_true rfl⟩, List.forall_mem_cons.mpr ⟨⟨c44_0_v, Nat.le_of_ble_eq_true rfl⟩, fun _ h => (by cases h)⟩⟩⟩) ext_nil (fun q h => (by cases h)) (enF c37_4_k) (List.forall_mem_cons.mpr ⟨⟨_, ptF c37_4_k0⟩, List.forall_mem_cons.mpr ⟨⟨_, ptF c37_4_k1⟩, fun _ h => (by cases h)⟩⟩)

noncomputable def c36_4 : Ct := (36, 39, (4, [qtN 0 0 60, qtA 1, qtN 2 0 60, qtN 3 0 60], [], [qvR 0, qvK (.ofNat 4)], zh115, []),
  [((7, [qtA 4, qtN 5 0 60, qtN 6 0 60], [], [], zh116, []), 0, 0)])
noncomputable def c36_4_e : List Ct := [c37_4, c40_0, c44_0]
noncomputable def c36_4_pts : List PE := []
set_option maxRecDepth 100000 in
theorem c36_4_k : enCtF c36_4 c36_4_e (pkP (c36_4_pts ++ []) []) (none) noH 3000 = true := by decide +kernel
set_option maxRecDepth 100000 in
theorem c36_4_v : ValidC PPk c36_4 := ct_ok fpk noH_ok (d := 38) (ext := []) (pts := c36_4_pts) (env := c36_4_e) rfl (List.forall_mem_cons.mpr ⟨⟨c37_4_v, Nat.le_of_ble_eq_true rfl⟩, List.forall_mem_cons.mpr ⟨⟨c40_0_v, Nat.le_of_ble_eq_true rfl⟩, List.forall_mem_cons.mpr ⟨⟨c44_0_v, Nat.le_of_ble_eq_true rfl⟩, fun _ h => (by cases h)⟩⟩⟩) ext_nil (fun q h => (by cases h)) (enF c36_4_k) (fun _ h => (by cases h))

noncomputable def c35_4 : Ct := (35, 40, (4, [qtN 0 0 60, qtA 1, qtN 2 0 60, qtN 3 0 60], [], [qvR 0, qvK (.ofNat 4)], zh115, []),
  [((7, [qtA 4, qtN 5 0 60, qtN 6 0 60], [], [], zh116, []), 0, 0)])
noncomputable def c35_4_e : List Ct := [c36_4, c40_0, c44_0]
noncomputable def c35_4_p0 : PE := (7, [0, 1, 2], (8, [qtN 0 0 60, qtA 1, qtN 2 0 60, qtN 3 0 60, qtN 4 0 60, qtA 5, qtN 6 0 60, qtN 7 0 60], [], [qvR 0, qvK (.ofNat 4), qvS 4], zh118, []), symsL 4 0, some ((.ofNat 121), [(4, (.negSucc 0))]), 0, 0)
noncomputable def c35_4_pts : List PE := [c35_4_p0]
set_option maxRecDepth 100000 in
theorem c35_4_k : enCtF c35_4 c35_4_e (pkP (c35_4_pts ++ []) [0]) (none) (noF, noM, 128, 0, 4) 3000 = true := by decide +kernel
set_option maxRecDepth 100000 in
theorem c35_4_k0 : ptCtF c35_4 c35_4_e (pkP (c35_4_pts ++ []) [0]) (noF, noM, 128, 0, 4) 3000 c35_4_p0 = true := by decide +kernel
set_option maxRecDepth 100000 in
theorem c35_4_v : ValidC PPk c35_4 := ct_ok fpk ⟨noF_ok, noM_ok⟩ (d := 39) (ext := []) (pts := c35_4_pts) (env := c35_4_e) rfl (List.forall_mem_cons.mpr ⟨⟨c36_4_v, Nat.le_of_ble_eq_true rfl⟩, List.forall_mem_cons.mpr ⟨⟨c40_0_v, Nat.le_of_ble_eq_true rfl⟩, List.forall_mem_cons.mpr ⟨⟨c44_0_v, Nat.le_of_ble_eq_true rfl⟩, fun _ h => (by cases h)⟩⟩⟩) ext_nil (fun q h => (by cases h)) (enF c35_4_k) (List.forall_mem_cons.mpr ⟨⟨_, ptF c35_4_k0⟩, fun _ h => (by cases h)⟩)

noncomputable def c34_4 : Ct := (34, 41, (4, [qtN 0 0 60, qtA 1, qtN 2 0 60, qtN 3 0 60], [], [qvR 0, qvK (.ofNat 4)], zh115, []),
  [((7, [qtA 4, qtN 5 0 60, qtN 6 0 60], [], [], zh116, []), 0, 0)])
noncomputable def c34_4_e : List Ct := [c35_4, c40_0, c44_0]
noncomputable def c34_4_p0 : PE := (7, [0, 1, 2], (8, [qtN 0 0 60, qtA 1, qtN 2 0 60, qtN 3 0 60, qtN 4 0 60, qtA 5, qtN 6 0 60, qtN 7 0 60], [], [qvR 0, qvK (.ofNat 4), qvS 4], zh118, []), symsL 4 0, some ((.ofNat 121), [(4, (.negSucc 0))]), 0, 0)
noncomputable def c34_4_pts : List PE := [c34_4_p0]
set_option maxRecDepth 100000 in
theorem c34_4_k : enCtF c34_4 c34_4_e (pkP (c34_4_pts ++ []) [0]) (none) (noF, noM, 128, 0, 4) 3000 = true := by decide +kernel
set_option maxRecDepth 100000 in
theorem c34_4_k0 : ptCtF c34_4 c34_4_e (pkP (c34_4_pts ++ []) [0]) (noF, noM, 128, 0, 4) 3000 c34_4_p0 = true := by decide +kernel
set_option maxRecDepth 100000 in
theorem c34_4_v : ValidC PPk c34_4 := ct_ok fpk ⟨noF_ok, noM_ok⟩ (d := 40) (ext := []) (pts := c34_4_pts) (env := c34_4_e) rfl (List.forall_mem_cons.mpr ⟨⟨c35_4_v, Nat.le_of_ble_eq_true rfl⟩, List.forall_mem_cons.mpr ⟨⟨c40_0_v, Nat.le_of_ble_eq_true rfl⟩, List.forall_mem_cons.mpr ⟨⟨c44_0_v, Nat.le_of_ble_eq_true rfl⟩, fun _ h => (by cases h)⟩⟩⟩) ext_nil (fun q h => (by cases h)) (enF c34_4_k) (List.forall_mem_cons.mpr ⟨⟨_, ptF c34_4_k0⟩, fun _ h => (by cases h)⟩)

noncomputable def c45_5 : Ct := (45, 42, (4, [qtN 0 0 60, qtA 1, qtN 2 0 60, qtN 3 0 60], [((.ofNat 1), [(0, (.negSucc 0)), (2, (.ofNat 1))])], [qvR 0, qvK (.ofNat 3)], zh115, []),
  [((7, [qtA 4, qtN 5 0 60, qtN 6 0 60], [], [], zh116, []), 0, 0)])
noncomputable def c45_5_e : List Ct := [c34_4, c40_0, c43_0]
noncomputable def c45_5_pts : List PE := []
set_option maxRecDepth 100000 in
theorem c45_5_k : enCtF c45_5 c45_5_e (pkP (c45_5_pts ++ []) []) (none) noH 3000 = true := by decide +kernel
set_option maxRecDepth 100000 in
theorem c45_5_v : ValidC PPk c45_5 := ct_ok fpk noH_ok (d := 41) (ext := []) (pts := c45_5_pts) (env := c45_5_e) rfl (List.forall_mem_cons.mpr ⟨⟨c34_4_v, Nat.le_of_ble_eq_true rfl⟩, List.forall_mem_cons.mpr ⟨⟨c40_0_v, Nat.le_of_ble_eq_true rfl⟩, List.forall_mem_cons.mpr ⟨⟨c43_0_v, Nat.le_of_ble_eq_true rfl⟩, fun _ h => (by cases h)⟩⟩⟩) ext_nil (fun q h => (by cases h)) (enF c45_5_k) (fun _ h => (by cases h))

noncomputable def c41_10 : Ct := (41, 43, (5, [qtN 0 0 60, qtA 1, qtN 2 0 60, qtN 3 0 60, qtA 4], [((.ofNat 1), [(0, (.negSucc 0)), (2, (.ofNat 1))])], [qvR 0, qvS 4, qvK (.ofNat 3)], zh115, []),
  [((8, [qtA 5, qtN 6 0 60, qtN 7 0 60], [], [], zh118, []), 0, 0)])
noncomputable def c41_10_e : List Ct := [c42_0, c43_0, c44_0, c45_5]
noncomputable def c41_10_pts : List PE := []
set_option maxRecDepth 100000 in
theorem c41_10_k : enCtF c41_10 c41_10_e (pkP (c41_10_pts ++ []) []) (none) noH 3000 = true := by decide +kernel
set_option maxRecDepth 100000 in
theorem c41_10_v : ValidC PPk c41_10 := ct_ok fpk noH_ok (d := 42) (ext := []) (pts := c41_10_pts) (env := c41_10_e) rfl (List.forall_mem_cons.mpr ⟨⟨c42_0_v, Nat.le_of_ble_eq_true rfl⟩, List.forall_mem_cons.mpr ⟨⟨c43_0_v, Nat.le_of_ble_eq_true rfl⟩, List.forall_mem_cons.mpr ⟨⟨c44_0_v, Nat.le_of_ble_eq_true rfl⟩, List.forall_mem_cons.mpr ⟨⟨c45_5_v, Nat.le_of_ble_eq_true rfl⟩, fun _ h => (by cases h)⟩⟩⟩⟩) ext_nil (fun q h => (by cases h)) (enF c41_10_k) (fun _ h => (by cases h))

noncomputable def c41_11 : Ct := (41, 2, (6, [qtN 0 0 60, qtA 1, qtN 2 0 60, qtN 3 0 60], [], [qvR 0, qvK (.negSucc 0), qvK (.ofNat 3)], zh113, []),
  [((7, [qtA 6], [], [], zh114, []), 0, 0)])
noncomputable def c41_11_e : List Ct := [c43_0]
noncomputable def c41_11_pts : List PE := []
set_option maxRecDepth 100000 in
theorem c41_11_k : enCtF c41_11 c41_11_e (pkP (c41_11_pts ++ []) []) (none) noH 3000 = true := by decide +kernel
set_option maxRecDepth 100000 in
theorem c41_11_v : ValidC PPk c41_11 := ct_ok fpk noH_ok (d := 1) (ext := []) (pts := c41_11_pts) (env := c41_11_e) rfl (List.forall_mem_cons.mpr ⟨⟨c43_0_v, Nat.le_of_ble_eq_true rfl⟩, fun _ h => (by cases h)⟩) ext_nil (fun q h => (by cases h)) (enF c41_11_k) (fun _ h => (by cases h))

noncomputable def c39_5 : Ct := (39, 44, (4, [qtN 0 0 60, qtA 1, qtN 2 0 60, qtN 3 0 60], [], [qvR 0, qvK (.ofNat 3)], zh115, []),
  [((7, [qtA 4, qtN 5 0 60, qtN 6 0 60], [], [], zh116, []), 0, 0)])
noncomputable def c39_5_e : List Ct := [c40_0, c41_10, c41_11, c44_0]
noncomputable def c39_5_p0 : PE := (13, [0, 1, 2, 3, 4], (7, [qtN 0 1 60, (1, (.negSucc 0), (.negSucc 0)), qtN 2 0 60, qtN 3 0 60, qtN 4 0 127, qtN 5 0 60, qtN 6 0 59], [((.ofNat 1), [(0, (.negSucc 0)), (6, (.ofNat 1))])], [qvR 0, qvK (.ofNat 3), qvS 2, qvS 4, qvS 5], zh119, []), symsL 4 0, some ((.ofNat 182), [(5, (.negSucc 0))]), 0, 0)
noncomputable def c39_5_p1 : PE := (13, [0, 1, 2, 3, 4], (6, [qtN 0 0 60, qtA 1, qtN 2 0 60, qtN 3 0 60, qtN 4 0 60, qtN 5 0 60], [], [qvR 0, qvK (.ofNat 3), qvS 2, qvK (.negSucc 0), qvS 4], zh117, []), symsL 4 0, some ((.ofNat 182), [(4, (.negSucc 0))]), 0, 0)
noncomputable def c39_5_p2 : PE := (71, [0, 1, 2, 3, 4, 5], (10, [qtN 0 0 60, qtA 1, qtN 2 0 60, qtN 3 0 60, (4, (.negSucc 0), (.ofNat 127)), qtN 5 0 60, (6, (.negSucc 0), (.ofNat 59)), qtA 7, qtN 8 0 60, qtN 9 0 60], [], [qvR 0, qvK (.ofNat 3), qvS 2, qvS 4, qvS 5, qvS 6], zh120, []), symsL 4 0, some ((.ofNat 62), [(6, (.ofNat 1))]), 0, 0)
noncomputable def c39_5_pts : List PE := [c39_5_p0, c39_5_p1, c39_5_p2]
set_option maxRecDepth 100000 in
theorem c39_5_k : enCtF c39_5 c39_5_e (pkP (c39_5_pts ++ []) [1, 0]) (none) (noF, noM, 2361183241434822615040, 0, 4) 3000 = true := by decide +kernel
set_option maxRecDepth 100000 in
theorem c39_5_k0 : ptCtF c39_5 c39_5_e (pkP (c39_5_pts ++ []) [2, 1, 0]) (noF, noM, 2361183241434822615040, 0, 4) 3000 c39_5_p0 = true := by decide +kernel
set_option maxRecDepth 100000 in
theorem c39_5_k1 : ptCtF c39_5 c39_5_e (pkP (c39_5_pts ++ []) [2]) (noF, noM, 2361183241434822615040, 0, 4) 3000 c39_5_p1 = true := by decide +kernel
set_option maxRecDepth 100000 in
theorem c39_5_k2 : ptCtF c39_5 c39_5_e (pkP (c39_5_pts ++ []) [2]) (noF, noM, 2361183241434822615040, 0, 4) 3000 c39_5_p2 = true := by decide +kernel
set_option maxRecDepth 100000 in
theorem c39_5_v : ValidC PPk c39_5 := ct_ok fpk ⟨noF_ok, noM_ok⟩ (d := 43) (ext := []) (pts := c39_5_pts) (env := c39_5_e) rfl (List.forall_mem_cons.mpr ⟨⟨c40_0_v, Nat.le_of_ble_eq_true rfl⟩, List.forall_mem_cons.mpr ⟨⟨c41_10_v, Nat.le_of_ble_eq_true rfl⟩, List.forall_mem_cons.mpr ⟨⟨c41_11_v, Nat.le_of_ble_eq_true rfl⟩, List.forall_mem_cons.mpr ⟨⟨c44_0_v, Nat.le_of_ble_eq_true rfl⟩, fun _ h => (by cases h)⟩⟩⟩⟩) ext_nil (fun q h => (by cases h)) (enF c39_5_k) (List.forall_mem_cons.mpr ⟨⟨_, ptF c39_5_k0⟩, List.forall_mem_cons.mpr ⟨⟨_, ptF c39_5_k1⟩, List.forall_mem_cons.mpr ⟨⟨_, ptF c39_5_k2⟩, fun _ h => (by cases h)⟩⟩⟩)

noncomputable def c38_5 : Ct := (38, 45, (4, [qtN 0 0 60, qtA 1, qtN 2 0 60, qtN 3 0 60], [], [qvR 0, qvK (.ofNat 3)], zh115, []),
  [((7, [qtA 4, qtN 5 0 60, qtN 6 0 60], [], [], zh116, []), 0, 0)])
noncomputable def c38_5_e : List Ct := [c39_5, c40_0, c44_0]
noncomputable def c38_5_p0 : PE := (7, [0, 1, 2], (7, (zt18 []), [], [qvR 0, qvK (.ofNat 3), qvK (.ofNat 0)], zh116, []), symsL 4 0, some ((.ofNat 121), []), 0, 0)
noncomputable def c38_5_p1 : PE := (7, [0, 1, 2, 3], (9, [qtN 0 1 60, qtA 1, qtN 2 0 60, qtN 3 0 60, qtN 4 1 60, qtN 5 42 47, qtA 6, qtN 7 0 60, qtN 8 1 60], [], [qvR 0, qvK (.ofNat 3), qvS 4, qvS 5], zh121, []), symsL 4 0, some ((.ofNat 121), [(4, (.negSucc 0))]), 0, 0)
noncomputable def c38_5_pts : List PE := [c38_5_p0, c38_5_p1]
set_option maxRecDepth 100000 in
theorem c38_5_k : enCtF c38_5 c38_5_e (pkP (c38_5_pts ++ []) [0]) (none) (noF, noM, 128, 0, 4) 3000 = true := by decide +kernel
set_option maxRecDepth 100000 in
theorem c38_5_k0 : ptCtF c38_5 c38_5_e (pkP (c38_5_pts ++ []) [1]) (noF, noM, 128, 0, 4) 3000 c38_5_p0 = true := by decide +kernel
set_option maxRecDepth 100000 in
theorem c38_5_k1 : ptCtF c38_5 c38_5_e (pkP (c38_5_pts ++ []) [1]) (noF, noM, 128, 0, 4) 3000 c38_5_p1 = true := by decide +kernel
set_option maxRecDepth 100000 in
theorem c38_5_v : ValidC PPk c38_5 := ct_ok fpk ⟨noF_ok, noM_ok⟩ (d := 44) (ext := []) (pts := c38_5_pts) (env := c38_5_e) rfl (List.forall_mem_cons.mpr ⟨⟨c39_5_v, Nat.le_of_ble_eq_true rfl⟩, List.forall_mem_cons.mpr ⟨⟨c40_0_v, Nat.le_of_ble_eq_true rfl⟩, List.forall_mem_cons.mpr ⟨⟨c44_0_v, Nat.le_of_ble_eq_true rfl⟩, fun _ h => (by cases h)⟩⟩⟩) ext_nil (fun q h => (by cases h)) (enF c38_5_k) (List.forall_mem_cons.mpr ⟨⟨_, ptF c38_5_k0⟩, List.forall_mem_cons.mpr ⟨⟨_, ptF c38_5_k1⟩, fun _ h => (by cases h)⟩⟩)

noncomputable def c37_5 : Ct := (37, 46, (4, [qtN 0 0 60, qtA 1, qtN 2 0 60, qtN 3 0 60], [], [qvR 0, qvK (.ofNat 3)], zh115, []),
  [((7, [qtA 4, qtN 5 0 60, qtN 6 0 60], [], [], zh116, []), 0, 0)])
noncomputable def c37_5_e : List Ct := [c38_5, c40_0, c44_0]
noncomputable def c37_5_p0 : PE := (7, [0, 1, 2], (7, (zt18 []), [], [qvR 0, qvK (.ofNat 3), qvK (.ofNat 0)], zh116, []), symsL 4 0, some ((.ofNat 121), []), 0, 0)
noncomputable def c37_5_p1 : PE := (7, [0, 1, 2, 3], (9, [qtN 0 1 60, qtA 1, qtN 2 0 60, qtN 3 0 60, qtN 4 1 60, qtN 5 43 45, qtA 6, qtN 7 0 60, qtN 8 1 60], [], [qvR 0, qvK (.ofNat 3), qvS 4, qvS 5], zh121, []), symsL 4 0, some ((.ofNat 121), [(4, (.negSucc 0))]), 0, 0)
noncomputable def c37_5_pts : List PE := [c37_5_p0, c37_5_p1]
set_option maxRecDepth 100000 in
theorem c37_5_k : enCtF c37_5 c37_5_e (pkP (c37_5_pts ++ []) [0]) (none) (noF, noM, 128, 0, 4) 3000 = true := by decide +kernel
set_option maxRecDepth 100000 in
theorem c37_5_k0 : ptCtF c37_5 c37_5_e (pkP (c37_5_pts ++ []) [1]) (noF, noM, 128, 0, 4) 3000 c37_5_p0 = true := by decide +kernel
set_option maxRecDepth 100000 in
theorem c37_5_k1 : ptCtF c37_5 c37_5_e (pkP (c37_5_pts ++ []) [1]) (noF, noM, 128, 0, 4) 3000 c37_5_p1 = true := by decide +kernel
set_option maxRecDepth 100000 in
theorem c37_5_v : ValidC PPk c37_5 := ct_ok fpk ⟨noF_ok, noM_ok⟩ (d := 45) (ext := []) (pts := c37_5_pts) (env := c37_5_e) rfl (List.forall_mem_cons.mpr ⟨⟨c38_5_v, Nat.le_of_ble_eq_true rfl⟩, List.forall_mem_cons.mpr ⟨⟨c40_0_v, Nat.le_of_ble_eq_true rfl⟩, List.forall_mem_cons.mpr ⟨⟨c44_0_v, Nat.le_of_ble_eq_true rfl⟩, fun _ h => (by cases h)⟩⟩⟩) ext_nil (fun q h => (by cases h)) (enF c37_5_k) (List.forall_mem_cons.mpr ⟨⟨_, ptF c37_5_k0⟩, List.forall_mem_cons.mpr ⟨⟨_, ptF c37_5_k1⟩, fun _ h => (by cases h)⟩⟩)

noncomputable def c36_5 : Ct := (36, 47, (4, [qtN 0 0 60, qtA 1, qtN 2 0 60, qtN 3 0 60], [], [qvR 0, qvK (.ofNat 3)], zh115, []),
  [((7, [qtA 4, qtN 5 0 60, qtN 6 0 60], [], [], zh116, []), 0, 0)])
noncomputable def c36_5_e : List Ct := [c37_5, c40_0, c44_0]
noncomputable def c36_5_pts : List PE := []
set_option maxRecDepth 100000 in
theorem c36_5_k : enCtF c36_5 c36_5_e (pkP (c36_5_pts ++ []) []) (none) noH 3000 = true := by decide +kernel
set_option maxRecDepth 100000 in
theorem c36_5_v : ValidC PPk c36_5 := ct_ok fpk noH_ok (d := 46) (ext := []) (pts := c36_5_pts) (env := c36_5_e) rfl (List.forall_mem_cons.mpr ⟨⟨c37_5_v, Nat.le_of_ble_eq_true rfl⟩, List.forall_mem_cons.mpr ⟨⟨c40_0_v, Nat.le_of_ble_eq_true rfl⟩, List.forall_mem_cons.mpr ⟨⟨c44_0_v, Nat.le_of_ble_eq_true rfl⟩, fun _ h => (by cases h)⟩⟩⟩) ext_nil (fun q h => (by cases h)) (enF c36_5_k) (fun _ h => (by cases h))

noncomputable def c35_5 : Ct := (35, 48, (4, [qtN 0 0 60, qtA 1, qtN 2 0 60, qtN 3 0 60], [], [qvR 0, qvK (.ofNat 3)], zh115, []),
  [((7, [qtA 4, qtN 5 0 60, qtN 6 0 60], [], [], zh116, []), 0, 0)])
noncomputable def c35_5_e : List Ct := [c36_5, c40_0, c44_0]
noncomputable def c35_5_p0 : PE := (7, [0, 1, 2], (8, [qtN 0 0 60, qtA 1, qtN 2 0 60, qtN 3 0 60, qtN 4 0 60, qtA 5, qtN 6 0 60, qtN 7 0 60], [], [qvR 0, qvK (.ofNat 3), qvS 4], zh118, []), symsL 4 0, some ((.ofNat 121), [(4, (.negSucc 0))]), 0, 0)
noncomputable def c35_5_pts : List PE := [c35_5_p0]
set_option maxRecDepth 100000 in
theorem c35_5_k : enCtF c35_5 c35_5_e (pkP (c35_5_pts ++ []) [0]) (none) (noF, noM, 128, 0, 4) 3000 = true := by decide +kernel
set_option maxRecDepth 100000 in
theorem c35_5_k0 : ptCtF c35_5 c35_5_e (pkP (c35_5_pts ++ []) [0]) (noF, noM, 128, 0, 4) 3000 c35_5_p0 = true := by decide +kernel
set_option maxRecDepth 100000 in
theorem c35_5_v : ValidC PPk c35_5 := ct_ok fpk ⟨noF_ok, noM_ok⟩ (d := 47) (ext := []) (pts := c35_5_pts) (env := c35_5_e) rfl (List.forall_mem_cons.mpr ⟨⟨c36_5_v, Nat.le_of_ble_eq_true rfl⟩, List.forall_mem_cons.mpr ⟨⟨c40_0_v, Nat.le_of_ble_eq_true rfl⟩, List.forall_mem_cons.mpr ⟨⟨c44_0_v, Nat.le_of_ble_eq_true rfl⟩, fun _ h => (by cases h)⟩⟩⟩) ext_nil (fun q h => (by cases h)) (enF c35_5_k) (List.forall_mem_cons.mpr ⟨⟨_, ptF c35_5_k0⟩, fun _ h => (by cases h)⟩)

noncomputable def c34_5 : Ct := (34, 49, (4, [qtN 0 0 60, qtA 1, qtN 2 0 60, qtN 3 0 60], [], [qvR 0, qvK (.ofNat 3)], zh115, []),
  [((7, [qtA 4, qtN 5 0 60, qtN 6 0 60], [], [], zh116, []), 0, 0)])
noncomputable def c34_5_e : List Ct := [c35_5, c40_0, c44_0]
noncomputable def c34_5_p0 : PE := (7, [0, 1, 2], (8, [qtN 0 0 60, qtA 1, qtN 2 0 60, qtN 3 0 60, qtN 4 0 60, qtA 5, qtN 6 0 60, qtN 7 0 60], [], [qvR 0, qvK (.ofNat 3), qvS 4], zh118, []), symsL 4 0, some ((.ofNat 121), [(4, (.negSucc 0))]), 0, 0)
noncomputable def c34_5_pts : List PE := [c34_5_p0]
set_option maxRecDepth 100000 in
theorem c34_5_k : enCtF c34_5 c34_5_e (pkP (c34_5_pts ++ []) [0]) (none) (noF, noM, 128, 0, 4) 3000 = true := by decide +kernel
set_option maxRecDepth 100000 in
theorem c34_5_k0 : ptCtF c34_5 c34_5_e (pkP (c34_5_pts ++ []) [0]) (noF, noM, 128, 0, 4) 3000 c34_5_p0 = true := by decide +kernel
set_option maxRecDepth 100000 in
theorem c34_5_v : ValidC PPk c34_5 := ct_ok fpk ⟨noF_ok, noM_ok⟩ (d := 48) (ext := []) (pts := c34_5_pts) (env := c34_5_e) rfl (List.forall_mem_cons.mpr ⟨⟨c35_5_v, Nat.le_of_ble_eq_true rfl⟩, List.forall_mem_cons.mpr ⟨⟨c40_0_v, Nat.le_of_ble_eq_true rfl⟩, List.forall_mem_cons.mpr ⟨⟨c44_0_v, Nat.le_of_ble_eq_true rfl⟩, fun _ h => (by cases h)⟩⟩⟩) ext_nil (fun q h => (by cases h)) (enF c34_5_k) (List.forall_mem_cons.mpr ⟨⟨_, ptF c34_5_k0⟩, fun _ h => (by cases h)⟩)

noncomputable def c45_6 : Ct := (45, 50, (4, [qtN 0 0 60, qtA 1, qtN 2 0 60, qtN 3 0 60], [((.ofNat 1), [(0, (.negSucc 0)), (2, (.ofNat 1))])], [qvR 0, qvK (.ofNat 2)], zh115, []),
  [((7, [qtA 4, qtN 5 0 60, qtN 6 0 60], [], [], zh116, []), 0, 0)])
noncomputable def c45_6_e : List Ct := [c34_5, c40_0, c43_0]
noncomputable def c45_6_pts : List PE := []
set_option maxRecDepth 100000 in
theorem c45_6_k : enCtF c45_6 c45_6_e (pkP (c45_6_pts ++ []) []) (none) noH 3000 = true := by decide +kernel
set_option maxRecDepth 100000 in
theorem c45_6_v : ValidC PPk c45_6 := ct_ok fpk noH_ok (d := 49) (ext := []) (pts := c45_6_pts) (env := c45_6_e) rfl (List.forall_mem_cons.mpr ⟨⟨c34_5_v, Nat.le_of_ble_eq_true rfl⟩, List.forall_mem_cons.mpr ⟨⟨c40_0_v, Nat.le_of_ble_eq_true rfl⟩, List.forall_mem_cons.mpr ⟨⟨c43_0_v, Nat.le_of_ble_eq_true rfl⟩, fun _ h => (by cases h)⟩⟩⟩) ext_nil (fun q h => (by cases h)) (enF c45_6_k) (fun _ h => (by cases h))

noncomputable def c41_12 : Ct := (41, 51, (5, [qtN 0 0 60, qtA 1, qtN 2 0 60, qtN 3 0 60, qtA 4], [((.ofNat 1), [(0, (.negSucc 0)), (2, (.ofNat 1))])], [qvR 0, qvS 4, qvK (.ofNat 2)], zh115, []),
  [((8, [qtA 5, qtN 6 0 60, qtN 7 0 60], [], [], zh118, []), 0, 0)])
noncomputable def c41_12_e : List Ct := [c42_0, c43_0, c44_0, c45_6]
noncomputable def c41_12_pts : List PE := []
set_option maxRecDepth 100000 in
theorem c41_12_k : enCtF c41_12 c41_12_e (pkP (c41_12_pts ++ []) []) (none) noH 3000 = true := by decide +kernel
set_option maxRecDepth 100000 in
theorem c41_12_v : ValidC PPk c41_12 := ct_ok fpk noH_ok (d := 50) (ext := []) (pts := c41_12_pts) (env := c41_12_e) rfl (List.forall_mem_cons.mpr ⟨⟨c42_0_v, Nat.le_of_ble_eq_true rfl⟩, List.forall_mem_cons.mpr ⟨⟨c43_0_v, Nat.le_of_ble_eq_true rfl⟩, List.forall_mem_cons.mpr ⟨⟨c44_0_v, Nat.le_of_ble_eq_true rfl⟩, List.forall_mem_cons.mpr ⟨⟨c45_6_v, Nat.le_of_ble_eq_true rfl⟩, fun _ h => (by cases h)⟩⟩⟩⟩) ext_nil (fun q h => (by cases h)) (enF c41_12_k) (fun _ h => (by cases h))

noncomputable def c41_13 : Ct := (41, 2, (6, [qtN 0 0 60, qtA 1, qtN 2 0 60, qtN 3 0 60], [], [qvR 0, qvK (.negSucc 0), qvK (.ofNat 2)], zh113, []),
  [((7, [qtA 6], [], [], zh114, []), 0, 0)])
noncomputable def c41_13_e : List Ct := [c43_0]
noncomputable def c41_13_pts : List PE := []
set_option maxRecDepth 100000 in
theorem c41_13_k : enCtF c41_13 c41_13_e (pkP (c41_13_pts ++ []) []) (none) noH 3000 = true := by decide +kernel
set_option maxRecDepth 100000 in
theorem c41_13_v : ValidC PPk c41_13 := ct_ok fpk noH_ok (d := 1) (ext := []) (pts := c41_13_pts) (env := c41_13_e) rfl (List.forall_mem_cons.mpr ⟨⟨c43_0_v, Nat.le_of_ble_eq_true rfl⟩, fun _ h => (by cases h)⟩) ext_nil (fun q h => (by cases h)) (enF c41_13_k) (fun _ h => (by cases h))

noncomputable def c39_6 : Ct := (39, 52, (4, [qtN 0 0 60, qtA 1, qtN 2 0 60, qtN 3 0 60], [], [qvR 0, qvK (.ofNat 2)], zh115, []),
  [((7, [qtA 4, qtN 5 0 60, qtN 6 0 60], [], [], zh116, []), 0, 0)])
noncomputable def c39_6_e : List Ct := [c40_0, c41_12, c41_13, c44_0]
noncomputable def c39_6_p0 : PE := (13, [0, 1, 2, 3, 4], (7, [qtN 0 1 60, (1, (.negSucc 0), (.negSucc 0)), qtN 2 0 60, qtN 3 0 60, qtN 4 0 127, qtN 5 0 60, qtN 6 0 59], [((.ofNat 1), [(0, (.negSucc 0)), (6, (.ofNat 1))])], [qvR 0, qvK (.ofNat 2), qvS 2, qvS 4, qvS 5], zh119, []), symsL 4 0, some ((.ofNat 182), [(5, (.negSucc 0))]), 0, 0)
noncomputable def c39_6_p1 : PE := (13, [0, 1, 2, 3, 4], (6, [qtN 0 0 60, qtA 1, qtN 2 0 60, qtN 3 0 60, qtN 4 0 60, qtN 5 0 60], [], [qvR 0, qvK (.ofNat 2), qvS 2, qvK (.negSucc 0), qvS 4], zh117, []), symsL 4 0, some ((.ofNat 182), [(4, (.negSucc 0))]), 0, 0)
noncomputable def c39_6_p2 : PE := (71, [0, 1, 2, 3, 4, 5], (10, [qtN 0 0 60, qtA 1, qtN 2 0 60, qtN 3 0 60, (4, (.negSucc 0), (.ofNat 127)), qtN 5 0 60, (6, (.negSucc 0), (.ofNat 59)), qtA 7, qtN 8 0 60, qtN 9 0 60], [], [qvR 0, qvK (.ofNat 2), qvS 2, qvS 4, qvS 5, qvS 6], zh120, []), symsL 4 0, some ((.ofNat 62), [(6, (.ofNat 1))]), 0, 0)
noncomputable def c39_6_pts : List PE := [c39_6_p0, c39_6_p1, c39_6_p2]
set_option maxRecDepth 100000 in
theorem c39_6_k : enCtF c39_6 c39_6_e (pkP (c39_6_pts ++ []) [1, 0]) (none) (noF, noM, 2361183241434822615040, 0, 4) 3000 = true := by decide +kernel
set_option maxRecDepth 100000 in
theorem c39_6_k0 : ptCtF c39_6 c39_6_e (pkP (c39_6_pts ++ []) [2, 1, 0]) (noF, noM, 2361183241434822615040, 0, 4) 3000 c39_6_p0 = true := by decide +kernel
set_option maxRecDepth 100000 in
theorem c39_6_k1 : ptCtF c39_6 c39_6_e (pkP (c39_6_pts ++ []) [2]) (noF, noM, 2361183241434822615040, 0, 4) 3000 c39_6_p1 = true := by decide +kernel
set_option maxRecDepth 100000 in
theorem c39_6_k2 : ptCtF c39_6 c39_6_e (pkP (c39_6_pts ++ []) [2]) (noF, noM, 2361183241434822615040, 0, 4) 3000 c39_6_p2 = true := by decide +kernel
set_option maxRecDepth 100000 in
theorem c39_6_v : ValidC PPk c39_6 := ct_ok fpk ⟨noF_ok, noM_ok⟩ (d := 51) (ext := []) (pts := c39_6_pts) (env := c39_6_e) rfl (List.forall_mem_cons.mpr ⟨⟨c40_0_v, Nat.le_of_ble_eq_true rfl⟩, List.forall_mem_cons.mpr ⟨⟨c41_12_v, Nat.le_of_ble_eq_true rfl⟩, List.forall_mem_cons.mpr ⟨⟨c41_13_v, Nat.le_of_ble_eq_true rfl⟩, List.forall_mem_cons.mpr ⟨⟨c44_0_v, Nat.le_of_ble_eq_true rfl⟩, fun _ h => (by cases h)⟩⟩⟩⟩) ext_nil (fun q h => (by cases h)) (enF c39_6_k) (List.forall_mem_cons.mpr ⟨⟨_, ptF c39_6_k0⟩, List.forall_mem_cons.mpr ⟨⟨_, ptF c39_6_k1⟩, List.forall_mem_cons.mpr ⟨⟨_, ptF c39_6_k2⟩, fun _ h => (by cases h)⟩⟩⟩)

noncomputable def c38_6 : Ct := (38, 53, (4, [qtN 0 0 60, qtA 1, qtN 2 0 60, qtN 3 0 60], [], [qvR 0, qvK (.ofNat 2)], zh115, []),
  [((7, [qtA 4, qtN 5 0 60, qtN 6 0 60], [], [], zh116, []), 0, 0)])
noncomputable def c38_6_e : List Ct := [c39_6, c40_0, c44_0]
noncomputable def c38_6_p0 : PE := (7, [0, 1, 2], (7, (zt18 []), [], [qvR 0, qvK (.ofNat 2), qvK (.ofNat 0)], zh116, []), symsL 4 0, some ((.ofNat 121), []), 0, 0)
noncomputable def c38_6_p1 : PE := (7, [0, 1, 2, 3], (9, [qtN 0 1 60, qtA 1, qtN 2 0 60, qtN 3 0 60, qtN 4 1 60, qtN 5 42 47, qtA 6, qtN 7 0 60, qtN 8 1 60], [], [qvR 0, qvK (.ofNat 2), qvS 4, qvS 5], zh121, []), symsL 4 0, some ((.ofNat 121), [(4, (.negSucc 0))]), 0, 0)
noncomputable def c38_6_pts : List PE := [c38_6_p0, c38_6_p1]
set_option maxRecDepth 100000 in
theorem c38_6_k : enCtF c38_6 c38_6_e (pkP (c38_6_pts ++ []) [0]) (none) (noF, noM, 128, 0, 4) 3000 = true := by decide +kernel
set_option maxRecDepth 100000 in
theorem c38_6_k0 : ptCtF c38_6 c38_6_e (pkP (c38_6_pts ++ []) [1]) (noF, noM, 128, 0, 4) 3000 c38_6_p0 = true := by decide +kernel
set_option maxRecDepth 100000 in
theorem c38_6_k1 : ptCtF c38_6 c38_6_e (pkP (c38_6_pts ++ []) [1]) (noF, noM, 128, 0, 4) 3000 c38_6_p1 = true := by decide +kernel
set_option maxRecDepth 100000 in
theorem c38_6_v : ValidC PPk c38_6 := ct_ok fpk ⟨noF_ok, noM_ok⟩ (d := 52) (ext := []) (pts := c38_6_pts) (env := c38_6_e) rfl (List.forall_mem_cons.mpr ⟨⟨c39_6_v, Nat.le_of_ble_eq_true rfl⟩, List.forall_mem_cons.mpr ⟨⟨c40_0_v, Nat.le_of_ble_eq_true rfl⟩, List.forall_mem_cons.mpr ⟨⟨c44_0_v, Nat.le_of_ble_eq_true rfl⟩, fun _ h => (by cases h)⟩⟩⟩) ext_nil (fun q h => (by cases h)) (enF c38_6_k) (List.forall_mem_cons.mpr ⟨⟨_, ptF c38_6_k0⟩, List.forall_mem_cons.mpr ⟨⟨_, ptF c38_6_k1⟩, fun _ h => (by cases h)⟩⟩)

noncomputable def c37_6 : Ct := (37, 54, (4, [qtN 0 0 60, qtA 1, qtN 2 0 60, qtN 3 0 60], [], [qvR 0, qvK (.ofNat 2)], zh115, []),
  [((7, [qtA 4, qtN 5 0 60, qtN 6 0 60], [], [], zh116, []), 0, 0)])
noncomputable def c37_6_e : List Ct := [c38_6, c40_0, c44_0]
noncomputable def c37_6_p0 : PE := (7, [0, 1, 2], (7, (zt18 []), [], [qvR 0, qvK (.ofNat 2), qvK (.ofNat 0)], zh116, []), symsL 4 0, some ((.ofNat 121), []), 0, 0)
noncomputable def c37_6_p1 : PE := (7, [0, 1, 2, 3], (9, [qtN 0 1 60, qtA 1, qtN 2 0 60, qtN 3 0 60, qtN 4 1 60, qtN 5 43 45, qtA 6, qtN 7 0 60, qtN 8 1 60], [], [qvR 0, qvK (.ofNat 2), qvS 4, qvS 5], zh121, []), symsL 4 0, some ((.ofNat 121), [(4, (.negSucc 0))]), 0, 0)
noncomputable def c37_6_pts : List PE := [c37_6_p0, c37_6_p1]
set_option maxRecDepth 100000 in
theorem c37_6_k : enCtF c37_6 c37_6_e (pkP (c37_6_pts ++ []) [0]) (none) (noF, noM, 128, 0, 4) 3000 = true := by decide +kernel
set_option maxRecDepth 100000 in
theorem c37_6_k0 : ptCtF c37_6 c37_6_e (pkP (c37_6_pts ++ []) [1]) (noF, noM, 128, 0, 4) 3000 c37_6_p0 = true := by decide +kernel
set_option maxRecDepth 100000 in
theorem c37_6_k1 : ptCtF c37_6 c37_6_e (pkP (c37_6_pts ++ []) [1]) (noF, noM, 128, 0, 4) 3000 c37_6_p1 = true := by decide +kernel
set_option maxRecDepth 100000 in
theorem c37_6_v : ValidC PPk c37_6 := ct_ok fpk ⟨noF_ok, noM_ok⟩ (d := 53) (ext := []) (pts := c37_6_pts) (env := c37_6_e) rfl (List.forall_mem_cons.mpr ⟨⟨c38_6_v, Nat.le_of_ble_eq_true rfl⟩, List.forall_mem_cons.mpr ⟨⟨c40_0_v, Nat.le_of_ble_eq_true rfl⟩, List.forall_mem_cons.mpr ⟨⟨c44_0_v, Nat.le_of_ble_eq_true rfl⟩, fun _ h => (by cases h)⟩⟩⟩) ext_nil (fun q h => (by cases h)) (enF c37_6_k) (List.forall_mem_cons.mpr ⟨⟨_, ptF c37_6_k0⟩, List.forall_mem_cons.mpr ⟨⟨_, ptF c37_6_k1⟩, fun _ h => (by cases h)⟩⟩)

noncomputable def c36_6 : Ct := (36, 55, (4, [qtN 0 0 60, qtA 1, qtN 2 0 60, qtN 3 0 60], [], [qvR 0, qvK (.ofNat 2)], zh115, []),
  [((7, [qtA 4, qtN 5 0 60, qtN 6 0 60], [], [], zh116, []), 0, 0)])
noncomputable def c36_6_e : List Ct := [c37_6, c40_0, c44_0]
noncomputable def c36_6_pts : List PE := []
set_option maxRecDepth 100000 in
theorem c36_6_k : enCtF c36_6 c36_6_e (pkP (c36_6_pts ++ []) []) (none) noH 3000 = true := by decide +kernel
set_option maxRecDepth 100000 in
theorem c36_6_v : ValidC PPk c36_6 := ct_ok fpk noH_ok (d := 54) (ext := []) (pts := c36_6_pts) (env := c36_6_e) rfl (List.forall_mem_cons.mpr ⟨⟨c37_6_v, Nat.le_of_ble_eq_true rfl⟩, List.forall_mem_cons.mpr ⟨⟨c40_0_v, Nat.le_of_ble_eq_true rfl⟩, List.forall_mem_cons.mpr ⟨⟨c44_0_v, Nat.le_of_ble_eq_true rfl⟩, fun _ h => (by cases h)⟩⟩⟩) ext_nil (fun q h => (by cases h)) (enF c36_6_k) (fun _ h => (by cases h))

noncomputable def c35_6 : Ct := (35, 56, (4, [qtN 0 0 60, qtA 1, qtN 2 0 60, qtN 3 0 60], [], [qvR 0, qvK (.ofNat 2)], zh115, []),
  [((7, [qtA 4, qtN 5 0 60, qtN 6 0 60], [], [], zh116, []), 0, 0)])
noncomputable def c35_6_e : List Ct := [c36_6, c40_0, c44_0]
noncomputable def c35_6_p0 : PE := (7, [0, 1, 2], (8, [qtN 0 0 60, qtA 1, qtN 2 0 60, qtN 3 0 60, qtN 4 0 60, qtA 5, qtN 6 0 60, qtN 7 0 60], [], [qvR 0, qvK (.ofNat 2), qvS 4], zh118, []), symsL 4 0, some ((.ofNat 121), [(4, (.negSucc 0))]), 0, 0)
noncomputable def c35_6_pts : List PE := [c35_6_p0]
set_option maxRecDepth 100000 in
theorem c35_6_k : enCtF c35_6 c35_6_e (pkP (c35_6_pts ++ []) [0]) (none) (noF, noM, 128, 0, 4) 3000 = true := by decide +kernel
set_option maxRecDepth 100000 in
theorem c35_6_k0 : ptCtF c35_6 c35_6_e (pkP (c35_6_pts ++ []) [0]) (noF, noM, 128, 0, 4) 3000 c35_6_p0 = true := by decide +kernel
set_option maxRecDepth 100000 in
theorem c35_6_v : ValidC PPk c35_6 := ct_ok fpk ⟨noF_ok, noM_ok⟩ (d := 55) (ext := []) (pts := c35_6_pts) (env := c35_6_e) rfl (List.forall_mem_cons.mpr ⟨⟨c36_6_v, Nat.le_of_ble_eq_true rfl⟩, List.forall_mem_cons.mpr ⟨⟨c40_0_v, Nat.le_of_ble_eq_true rfl⟩, List.forall_mem_cons.mpr ⟨⟨c44_0_v, Nat.le_of_ble_eq_true rfl⟩, fun _ h => (by cases h)⟩⟩⟩) ext_nil (fun q h => (by cases h)) (enF c35_6_k) (List.forall_mem_cons.mpr ⟨⟨_, ptF c35_6_k0⟩, fun _ h => (by cases h)⟩)

noncomputable def c34_6 : Ct := (34, 57, (4, [qtN 0 0 60, qtA 1, qtN 2 0 60, qtN 3 0 60], [], [qvR 0, qvK (.ofNat 2)], zh115, []),
  [((7, [qtA 4, qtN 5 0 60, qtN 6 0 60], [], [], zh116, []), 0, 0)])
noncomputable def c34_6_e : List Ct := [c35_6, c40_0, c44_0]
noncomputable def c34_6_p0 : PE := (7, [0, 1, 2], (8, [qtN 0 0 60, qtA 1, qtN 2 0 60, qtN 3 0 60, qtN 4 0 60, qtA 5, qtN 6 0 60, qtN 7 0 60], [], [qvR 0, qvK (.ofNat 2), qvS 4], zh118, []), symsL 4 0, some ((.ofNat 121), [(4, (.negSucc 0))]), 0, 0)
noncomputable def c34_6_pts : List PE := [c34_6_p0]
set_option maxRecDepth 100000 in
theorem c34_6_k : enCtF c34_6 c34_6_e (pkP (c34_6_pts ++ []) [0]) (none) (noF, noM, 128, 0, 4) 3000 = true := by decide +kernel
set_option maxRecDepth 100000 in
theorem c34_6_k0 : ptCtF c34_6 c34_6_e (pkP (c34_6_pts ++ []) [0]) (noF, noM, 128, 0, 4) 3000 c34_6_p0 = true := by decide +kernel
set_option maxRecDepth 100000 in
theorem c34_6_v : ValidC PPk c34_6 := ct_ok fpk ⟨noF_ok, noM_ok⟩ (d := 56) (ext := []) (pts := c34_6_pts) (env := c34_6_e) rfl (List.forall_mem_cons.mpr ⟨⟨c35_6_v, Nat.le_of_ble_eq_true rfl⟩, List.forall_mem_cons.mpr ⟨⟨c40_0_v, Nat.le_of_ble_eq_true rfl⟩, List.forall_mem_cons.mpr ⟨⟨c44_0_v, Nat.le_of_ble_eq_true rfl⟩, fun _ h => (by cases h)⟩⟩⟩) ext_nil (fun q h => (by cases h)) (enF c34_6_k) (List.forall_mem_cons.mpr ⟨⟨_, ptF c34_6_k0⟩, fun _ h => (by cases h)⟩)

noncomputable def c45_7 : Ct := (45, 58, (4, [qtN 0 0 60, qtA 1, qtN 2 0 60, qtN 3 0 60], [((.ofNat 1), [(0, (.negSucc 0)), (2, (.ofNat 1))])], [qvR 0, qvK (.ofNat 1)], zh115, []),
  [((7, [qtA 4, qtN 5 0 60, qtN 6 0 60], [], [], zh116, []), 0, 0)])
noncomputable def c45_7_e : List Ct := [c34_6, c40_0, c43_0]
noncomputable def c45_7_pts : List PE := []
set_option maxRecDepth 100000 in
theorem c45_7_k : enCtF c45_7 c45_7_e (pkP (c45_7_pts ++ []) []) (none) noH 3000 = true := by decide +kernel
set_option maxRecDepth 100000 in
theorem c45_7_v : ValidC PPk c45_7 := ct_ok fpk noH_ok (d := 57) (ext := []) (pts := c45_7_pts) (env := c45_7_e) rfl (List.forall_mem_cons.mpr ⟨⟨c34_6_v, Nat.le_of_ble_eq_true rfl⟩, List.forall_mem_cons.mpr ⟨⟨c40_0_v, Nat.le_of_ble_eq_true rfl⟩, List.forall_mem_cons.mpr ⟨⟨c43_0_v, Nat.le_of_ble_eq_true rfl⟩, fun _ h => (by cases h)⟩⟩⟩) ext_nil (fun q h => (by cases h)) (enF c45_7_k) (fun _ h => (by cases h))

noncomputable def c41_14 : Ct := (41, 59, (5, [qtN 0 0 60, qtA 1, qtN 2 0 60, qtN 3 0 60, qtA 4], [((.ofNat 1), [(0, (.negSucc 0)), (2, (.ofNat 1))])], [qvR 0, qvS 4, qvK (.ofNat 1)], zh115, []),
  [((8, [qtA 5, qtN 6 0 60, qtN 7 0 60], [], [], zh118, []), 0, 0)])
noncomputable def c41_14_e : List Ct := [c42_0, c43_0, c44_0, c45_7]
noncomputable def c41_14_pts : List PE := []
set_option maxRecDepth 100000 in
theorem c41_14_k : enCtF c41_14 c41_14_e (pkP (c41_14_pts ++ []) []) (none) noH 3000 = true := by decide +kernel
set_option maxRecDepth 100000 in
theorem c41_14_v : ValidC PPk c41_14 := ct_ok fpk noH_ok (d := 58) (ext := []) (pts := c41_14_pts) (env := c41_14_e) rfl (List.forall_mem_cons.mpr ⟨⟨c42_0_v, Nat.le_of_ble_eq_true rfl⟩, List.forall_mem_cons.mpr ⟨⟨c43_0_v, Nat.le_of_ble_eq_true rfl⟩, List.forall_mem_cons.mpr ⟨⟨c44_0_v, Nat.le_of_ble_eq_true rfl⟩, List.forall_mem_cons.mpr ⟨⟨c45_7_v, Nat.le_of_ble_eq_true rfl⟩, fun _ h => (by cases h)⟩⟩⟩⟩) ext_nil (fun q h => (by cases h)) (enF c41_14_k) (fun _ h => (by cases h))

noncomputable def c41_15 : Ct := (41, 2, (6, [qtN 0 0 60, qtA 1, qtN 2 0 60, qtN 3 0 60], [], [qvR 0, qvK (.negSucc 0), qvK (.ofNat 1)], zh113, []),
  [((7, [qtA 6], [], [], zh114, []), 0, 0)])
noncomputable def c41_15_e : List Ct := [c43_0]
noncomputable def c41_15_pts : List PE := []
set_option maxRecDepth 100000 in
theorem c41_15_k : enCtF c41_15 c41_15_e (pkP (c41_15_pts ++ []) []) (none) noH 3000 = true := by decide +kernel
set_option maxRecDepth 100000 in
theorem c41_15_v : ValidC PPk c41_15 := ct_ok fpk noH_ok (d := 1) (ext := []) (pts := c41_15_pts) (env := c41_15_e) rfl (List.forall_mem_cons.mpr ⟨⟨c43_0_v, Nat.le_of_ble_eq_true rfl⟩, fun _ h => (by cases h)⟩) ext_nil (fun q h => (by cases h)) (enF c41_15_k) (fun _ h => (by cases h))

noncomputable def c39_7 : Ct := (39, 60, (4, [qtN 0 0 60, qtA 1, qtN 2 0 60, qtN 3 0 60], [], [qvR 0, qvK (.ofNat 1)], zh115, []),
  [((7, [qtA 4, qtN 5 0 60, qtN 6 0 60], [], [], zh116, []), 0, 0)])
noncomputable def c39_7_e : List Ct := [c40_0, c41_14, c41_15, c44_0]
noncomputable def c39_7_p0 : PE := (13, [0, 1, 2, 3, 4], (7, [qtN 0 1 60, (1, (.negSucc 0), (.negSucc 0)), qtN 2 0 60, qtN 3 0 60, qtN 4 0 127, qtN 5 0 60, qtN 6 0 59], [((.ofNat 1), [(0, (.negSucc 0)), (6, (.ofNat 1))])], [qvR 0, qvK (.ofNat 1), qvS 2, qvS 4, qvS 5], zh119, []), symsL 4 0, some ((.ofNat 182), [(5, (.negSucc 0))]), 0, 0)
noncomputable def c39_7_p1 : PE := (13, [0, 1, 2, 3, 4], (6, [qtN 0 0 60, qtA 1, qtN 2 0 60, qtN 3 0 60, qtN 4 0 60, qtN 5 0 60], [], [qvR 0, qvK (.ofNat 1), qvS 2, qvK (.negSucc 0), qvS 4], zh117, []), symsL 4 0, some ((.ofNat 182), [(4, (.negSucc 0))]), 0, 0)
noncomputable def c39_7_p2 : PE := (71, [0, 1, 2, 3, 4, 5], (10, [qtN 0 0 60, qtA 1, qtN 2 0 60, qtN 3 0 60, (4, (.negSucc 0), (.ofNat 127)), qtN 5 0 60, (6, (.negSucc 0), (.ofNat 59)), qtA 7, qtN 8 0 60, qtN 9 0 60], [], [qvR 0, qvK (.ofNat 1), qvS 2, qvS 4, qvS 5, qvS 6], zh120, []), symsL 4 0, some ((.ofNat 62), [(6, (.ofNat 1))]), 0, 0)
noncomputable def c39_7_pts : List PE := [c39_7_p0, c39_7_p1, c39_7_p2]
set_option maxRecDepth 100000 in
theorem c39_7_k : enCtF c39_7 c39_7_e (pkP (c39_7_pts ++ []) [1, 0]) (none) (noF, noM, 2361183241434822615040, 0, 4) 3000 = true := by decide +kernel
set_option maxRecDepth 100000 in
theorem c39_7_k0 : ptCtF c39_7 c39_7_e (pkP (c39_7_pts ++ []) [2, 1, 0]) (noF, noM, 2361183241434822615040, 0, 4) 3000 c39_7_p0 = true := by decide +kernel
set_option maxRecDepth 100000 in
theorem c39_7_k1 : ptCtF c39_7 c39_7_e (pkP (c39_7_pts ++ []) [2]) (noF, noM, 2361183241434822615040, 0, 4) 3000 c39_7_p1 = true := by decide +kernel
set_option maxRecDepth 100000 in
theorem c39_7_k2 : ptCtF c39_7 c39_7_e (pkP (c39_7_pts ++ []) [2]) (noF, noM, 2361183241434822615040, 0, 4) 3000 c39_7_p2 = true := by decide +kernel
set_option maxRecDepth 100000 in
theorem c39_7_v : ValidC PPk c39_7 := ct_ok fpk ⟨noF_ok, noM_ok⟩ (d := 59) (ext := []) (pts := c39_7_pts) (env := c39_7_e) rfl (List.forall_mem_cons.mpr ⟨⟨c40_0_v, Nat.le_of_ble_eq_true rfl⟩, List.forall_mem_cons.mpr ⟨⟨c41_14_v, Nat.le_of_ble_eq_true rfl⟩, List.forall_mem_cons.mpr ⟨⟨c41_15_v, Nat.le_of_ble_eq_true rfl⟩, List.forall_mem_cons.mpr ⟨⟨c44_0_v, Nat.le_of_ble_eq_true rfl⟩, fun _ h => (by cases h)⟩⟩⟩⟩) ext_nil (fun q h => (by cases h)) (enF c39_7_k) (List.forall_mem_cons.mpr ⟨⟨_, ptF c39_7_k0⟩, List.forall_mem_cons.mpr ⟨⟨_, ptF c39_7_k1⟩, List.forall_mem_cons.mpr ⟨⟨_, ptF c39_7_k2⟩, fun _ h => (by cases h)⟩⟩⟩)

noncomputable def c38_7 : Ct := (38, 61, (4, [qtN 0 0 60, qtA 1, qtN 2 0 60, qtN 3 0 60], [], [qvR 0, qvK (.ofNat 1)], zh115, []),
  [((7, [qtA 4, qtN 5 0 60, qtN 6 0 60], [], [], zh116, []), 0, 0)])
noncomputable def c38_7_e : List Ct := [c39_7, c40_0, c44_0]
noncomputable def c38_7_p0 : PE := (7, [0, 1, 2], (7, (zt18 []), [], [qvR 0, qvK (.ofNat 1), qvK (.ofNat 0)], zh116, []), symsL 4 0, some ((.ofNat 121), []), 0, 0)
noncomputable def c38_7_p1 : PE := (7, [0, 1, 2, 3], (9, [qtN 0 1 60, qtA 1, qtN 2 0 60, qtN 3 0 60, qtN 4 1 60, qtN 5 42 47, qtA 6, qtN 7 0 60, qtN 8 1 60], [], [qvR 0, qvK (.ofNat 1), qvS 4, qvS 5], zh121, []), symsL 4 0, some ((.ofNat 121), [(4, (.negSucc 0))]), 0, 0)
noncomputable def c38_7_pts : List PE := [c38_7_p0, c38_7_p1]
set_option maxRecDepth 100000 in
theorem c38_7_k : enCtF c38_7 c38_7_e (pkP (c38_7_pts ++ []) [0]) (none) (noF, noM, 128, 0, 4) 3000 = true := by decide +kernel
set_option maxRecDepth 100000 in
theorem c38_7_k0 : ptCtF c38_7 c38_7_e (pkP (c38_7_pts ++ []) [1]) (noF, noM, 128, 0, 4) 3000 c38_7_p0 = true := by decide +kernel
set_option maxRecDepth 100000 in
theorem c38_7_k1 : ptCtF c38_7 c38_7_e (pkP (c38_7_pts ++ []) [1]) (noF, noM, 128, 0, 4) 3000 c38_7_p1 = true := by decide +kernel
set_option maxRecDepth 100000 in
theorem c38_7_v : ValidC PPk c38_7 := ct_ok fpk ⟨noF_ok, noM_ok⟩ (d := 60) (ext := []) (pts := c38_7_pts) (env := c38_7_e) rfl (List.forall_mem_cons.mpr ⟨⟨c39_7_v, Nat.le_of_ble_eq_true rfl⟩, List.forall_mem_cons.mpr ⟨⟨c40_0_v, Nat.le_of_ble_eq_true rfl⟩, List.forall_mem_cons.mpr ⟨⟨c44_0_v, Nat.le_of_ble_eq_true rfl⟩, fun _ h => (by cases h)⟩⟩⟩) ext_nil (fun q h => (by cases h)) (enF c38_7_k) (List.forall_mem_cons.mpr ⟨⟨_, ptF c38_7_k0⟩, List.forall_mem_cons.mpr ⟨⟨_, ptF c38_7_k1⟩, fun _ h => (by cases h)⟩⟩)

noncomputable def c37_7 : Ct := (37, 62, (4, [qtN 0 0 60, qtA 1, qtN 2 0 60, qtN 3 0 60], [], [qvR 0, qvK (.ofNat 1)], zh115, []),
  [((7, [qtA 4, qtN 5 0 60, qtN 6 0 60], [], [], zh116, []), 0, 0)])
noncomputable def c37_7_e : List Ct := [c38_7, c40_0, c44_0]
noncomputable def c37_7_p0 : PE := (7, [0, 1, 2], (7, (zt18 []), [], [qvR 0, qvK (.ofNat 1), qvK (.ofNat 0)], zh116, []), symsL 4 0, some ((.ofNat 121), []), 0, 0)
noncomputable def c37_7_p1 : PE := (7, [0, 1, 2, 3], (9, [qtN 0 1 60, qtA 1, qtN 2 0 60, qtN 3 0 60, qtN 4 1 60, qtN 5 43 45, qtA 6, qtN 7 0 60, qtN 8 1 60], [], [qvR 0, qvK (.ofNat 1), qvS 4, qvS 5], zh121, []), symsL 4 0, some ((.ofNat 121), [(4, (.negSucc 0))]), 0, 0)
noncomputable def c37_7_pts : List PE := [c37_7_p0, c37_7_p1]
set_option maxRecDepth 100000 in
theorem c37_7_k : enCtF c37_7 c37_7_e (pkP (c37_7_pts ++ []) [0]) (none) (noF, noM, 128, 0, 4) 3000 = true := by decide +kernel
set_option maxRecDepth 100000 in
theorem c37_7_k0 : ptCtF c37_7 c37_7_e (pkP (c37_7_pts ++ []) [1]) (noF, noM, 128, 0, 4) 3000 c37_7_p0 = true := by decide +kernel
set_option maxRecDepth 100000 in
theorem c37_7_k1 : ptCtF c37_7 c37_7_e (pkP (c37_7_pts ++ []) [1]) (noF, noM, 128, 0, 4) 3000 c37_7_p1 = true := by decide +kernel
set_option maxRecDepth 100000 in
theorem c37_7_v : ValidC PPk c37_7 := ct_ok fpk ⟨noF_ok, noM_ok⟩ (d := 61) (ext := []) (pts := c37_7_pts) (env := c37_7_e) rfl (List.forall_mem_cons.mpr ⟨⟨c38_7_v, Nat.le_of_ble_eq_true rfl⟩, List.forall_mem_cons.mpr ⟨⟨c40_0_v, Nat.le_of_ble_eq_true rfl⟩, List.forall_mem_cons.mpr ⟨⟨c44_0_v, Nat.le_of_ble_eq_true rfl⟩, fun _ h => (by cases h)⟩⟩⟩) ext_nil (fun q h => (by cases h)) (enF c37_7_k) (List.forall_mem_cons.mpr ⟨⟨_, ptF c37_7_k0⟩, List.forall_mem_cons.mpr ⟨⟨_, ptF c37_7_k1⟩, fun _ h => (by cases h)⟩⟩)

noncomputable def c36_7 : Ct := (36, 63, (4, [qtN 0 0 60, qtA 1, qtN 2 0 60, qtN 3 0 60], [], [qvR 0, qvK (.ofNat 1)], zh115, []),
  [((7, [qtA 4, qtN 5 0 60, qtN 6 0 60], [], [], zh116, []), 0, 0)])
noncomputable def c36_7_e : List Ct := [c37_7, c40_0, c44_0]
noncomputable def c36_7_pts : List PE := []
set_option maxRecDepth 100000 in
theorem c36_7_k : enCtF c36_7 c36_7_e (pkP (c36_7_pts ++ []) []) (none) noH 3000 = true := by decide +kernel
set_option maxRecDepth 100000 in
theorem c36_7_v : ValidC PPk c36_7 := ct_ok fpk noH_ok (d := 62) (ext := []) (pts := c36_7_pts) (env := c36_7_e) rfl (List.forall_mem_cons.mpr ⟨⟨c37_7_v, Nat.le_of_ble_eq_true rfl⟩, List.forall_mem_cons.mpr ⟨⟨c40_0_v, Nat.le_of_ble_eq_true rfl⟩, List.forall_mem_cons.mpr ⟨⟨c44_0_v, Nat.le_of_ble_eq_true rfl⟩, fun _ h => (by cases h)⟩⟩⟩) ext_nil (fun q h => (by cases h)) (enF c36_7_k) (fun _ h => (by cases h))

noncomputable def c35_7 : Ct := (35, 64, (4, [qtN 0 0 60, qtA 1, qtN 2 0 60, qtN 3 0 60], [], [qvR 0, qvK (.ofNat 1)], zh115, []),
  [((7, [qtA 4, qtN 5 0 60, qtN 6 0 60], [], [], zh116, []), 0, 0)])
noncomputable def c35_7_e : List Ct := [c36_7, c40_0, c44_0]
noncomputable def c35_7_p0 : PE := (7, [0, 1, 2], (8, [qtN 0 0 60, qtA 1, qtN 2 0 60, qtN 3 0 60, qtN 4 0 60, qtA 5, qtN 6 0 60, qtN 7 0 60], [], [qvR 0, qvK (.ofNat 1), qvS 4], zh118, []), symsL 4 0, some ((.ofNat 121), [(4, (.negSucc 0))]), 0, 0)
noncomputable def c35_7_pts : List PE := [c35_7_p0]
set_option maxRecDepth 100000 in
theorem c35_7_k : enCtF c35_7 c35_7_e (pkP (c35_7_pts ++ []) [0]) (none) (noF, noM, 128, 0, 4) 3000 = true := by decide +kernel
set_option maxRecDepth 100000 in
theorem c35_7_k0 : ptCtF c35_7 c35_7_e (pkP (c35_7_pts ++ []) [0]) (noF, noM, 128, 0, 4) 3000 c35_7_p0 = true := by decide +kernel
set_option maxRecDepth 100000 in
theorem c35_7_v : ValidC PPk c35_7 := ct_ok fpk ⟨noF_ok, noM_ok⟩ (d := 63) (ext := []) (pts := c35_7_pts) (env := c35_7_e) rfl (List.forall_mem_cons.mpr ⟨⟨c36_7_v, Nat.le_of_ble_eq_true rfl⟩, List.forall_mem_cons.mpr ⟨⟨c40_0_v, Nat.le_of_ble_eq_true rfl⟩, List.forall_mem_cons.mpr ⟨⟨c44_0_v, Nat.le_of_ble_eq_true rfl⟩, fun _ h => (by cases h)⟩⟩⟩) ext_nil (fun q h => (by cases h)) (enF c35_7_k) (List.forall_mem_cons.mpr ⟨⟨_, ptF c35_7_k0⟩, fun _ h => (by cases h)⟩)

noncomputable def c34_7 : Ct := (34, 65, (4, [qtN 0 0 60, qtA 1, qtN 2 0 60, qtN 3 0 60], [], [qvR 0, qvK (.ofNat 1)], zh115, []),
  [((7, [qtA 4, qtN 5 0 60, qtN 6 0 60], [], [], zh116, []), 0, 0)])
noncomputable def c34_7_e : List Ct := [c35_7, c40_0, c44_0]
noncomputable def c34_7_p0 : PE := (7, [0, 1, 2], (8, [qtN 0 0 60, qtA 1, qtN 2 0 60, qtN 3 0 60, qtN 4 0 60, qtA 5, qtN 6 0 60, qtN 7 0 60], [], [qvR 0, qvK (.ofNat 1), qvS 4], zh118, []), symsL 4 0, some ((.ofNat 121), [(4, (.negSucc 0))]), 0, 0)
noncomputable def c34_7_pts : List PE := [c34_7_p0]
set_option maxRecDepth 100000 in
theorem c34_7_k : enCtF c34_7 c34_7_e (pkP (c34_7_pts ++ []) [0]) (none) (noF, noM, 128, 0, 4) 3000 = true := by decide +kernel
set_option maxRecDepth 100000 in
theorem c34_7_k0 : ptCtF c34_7 c34_7_e (pkP (c34_7_pts ++ []) [0]) (noF, noM, 128, 0, 4) 3000 c34_7_p0 = true := by decide +kernel
set_option maxRecDepth 100000 in
theorem c34_7_v : ValidC PPk c34_7 := ct_ok fpk ⟨noF_ok, noM_ok⟩ (d := 64) (ext := []) (pts := c34_7_pts) (env := c34_7_e) rfl (List.forall_mem_cons.mpr ⟨⟨c35_7_v, Nat.le_of_ble_eq_true rfl⟩, List.forall_mem_cons.mpr ⟨⟨c40_0_v, Nat.le_of_ble_eq_true rfl⟩, List.forall_mem_cons.mpr ⟨⟨c44_0_v, Nat.le_of_ble_eq_true rfl⟩, fun _ h => (by cases h)⟩⟩⟩) ext_nil (fun q h => (by cases h)) (enF c34_7_k) (List.forall_mem_cons.mpr ⟨⟨_, ptF c34_7_k0⟩, fun _ h => (by cases h)⟩)

noncomputable def c45_8 : Ct := (45, 66, (4, [qtN 0 0 60, qtA 1, qtN 2 0 60, qtN 3 0 60], [((.ofNat 1), [(0, (.negSucc 0)), (2, (.ofNat 1))])], [qvR 0, qvK (.ofNat 0)], zh115, []),
  [((7, [qtA 4, qtN 5 0 60, qtN 6 0 60], [], [], zh116, []), 0, 0)])
noncomputable def c45_8_e : List Ct := [c34_7, c40_0, c43_0]
noncomputable def c45_8_pts : List PE := []
set_option maxRecDepth 100000 in
theorem c45_8_k : enCtF c45_8 c45_8_e (pkP (c45_8_pts ++ []) []) (none) noH 3000 = true := by decide +kernel
set_option maxRecDepth 100000 in
theorem c45_8_v : ValidC PPk c45_8 := ct_ok fpk noH_ok (d := 65) (ext := []) (pts := c45_8_pts) (env := c45_8_e) rfl (List.forall_mem_cons.mpr ⟨⟨c34_7_v, Nat.le_of_ble_eq_true rfl⟩, List.forall_mem_cons.mpr ⟨⟨c40_0_v, Nat.le_of_ble_eq_true rfl⟩, List.forall_mem_cons.mpr ⟨⟨c43_0_v, Nat.le_of_ble_eq_true rfl⟩, fun _ h => (by cases h)⟩⟩⟩) ext_nil (fun q h => (by cases h)) (enF c45_8_k) (fun _ h => (by cases h))

noncomputable def c41_16 : Ct := (41, 67, (5, [qtN 0 0 60, qtA 1, qtN 2 0 60, qtN 3 0 60, qtA 4], [((.ofNat 1), [(0, (.negSucc 0)), (2, (.ofNat 1))])], [qvR 0, qvS 4, qvK (.ofNat 0)], zh115, []),
  [((8, [qtA 5, qtN 6 0 60, qtN 7 0 60], [], [], zh118, []), 0, 0)])
noncomputable def c41_16_e : List Ct := [c42_0, c43_0, c44_0, c45_8]
noncomputable def c41_16_pts : List PE := []
set_option maxRecDepth 100000 in
theorem c41_16_k : enCtF c41_16 c41_16_e (pkP (c41_16_pts ++ []) []) (none) noH 3000 = true := by decide +kernel
set_option maxRecDepth 100000 in
theorem c41_16_v : ValidC PPk c41_16 := ct_ok fpk noH_ok (d := 66) (ext := []) (pts := c41_16_pts) (env := c41_16_e) rfl (List.forall_mem_cons.mpr ⟨⟨c42_0_v, Nat.le_of_ble_eq_true rfl⟩, List.forall_mem_cons.mpr ⟨⟨c43_0_v, Nat.le_of_ble_eq_true rfl⟩, List.forall_mem_cons.mpr ⟨⟨c44_0_v, Nat.le_of_ble_eq_true rfl⟩, List.forall_mem_cons.mpr ⟨⟨c45_8_v, Nat.le_of_ble_eq_true rfl⟩, fun _ h => (by cases h)⟩⟩⟩⟩) ext_nil (fun q h => (by cases h)) (enF c41_16_k) (fun _ h => (by cases h))

noncomputable def c41_17 : Ct := (41, 2, (6, [qtN 0 0 60, qtA 1, qtN 2 0 60, qtN 3 0 60], [], [qvR 0, qvK (.negSucc 0), qvK (.ofNat 0)], zh113, []),
  [((7, [qtA 6], [], [], zh114, []), 0, 0)])
noncomputable def c41_17_e : List Ct := [c43_0]
noncomputable def c41_17_pts : List PE := []
set_option maxRecDepth 100000 in
theorem c41_17_k : enCtF c41_17 c41_17_e (pkP (c41_17_pts ++ []) []) (none) noH 3000 = true := by decide +kernel
set_option maxRecDepth 100000 in
theorem c41_17_v : ValidC PPk c41_17 := ct_ok fpk noH_ok (d := 1) (ext := []) (pts := c41_17_pts) (env := c41_17_e) rfl (List.forall_mem_cons.mpr ⟨⟨c43_0_v, Nat.le_of_ble_eq_true rfl⟩, fun _ h => (by cases h)⟩) ext_nil (fun q h => (by cases h)) (enF c41_17_k) (fun _ h => (by cases h))

noncomputable def c39_8 : Ct := (39, 68, (4, [qtN 0 0 60, qtA 1, qtN 2 0 60, qtN 3 0 60], [], [qvR 0, qvK (.ofNat 0)], zh115, []),
  [((7, [qtA 4, qtN 5 0 60, qtN 6 0 60], [], [], zh116, []), 0, 0)])
noncomputable def c39_8_e : List Ct := [c40_0, c41_16, c41_17, c44_0]
noncomputable def c39_8_p0 : PE := (13, [0, 1, 2, 3, 4], (7, [qtN 0 1 60, (1, (.negSucc 0), (.negSucc 0)), qtN 2 0 60, qtN 3 0 60, qtN 4 0 127, qtN 5 0 60, qtN 6 0 59], [((.ofNat 1), [(0, (.negSucc 0)), (6, (.ofNat 1))])], [qvR 0, qvK (.ofNat 0), qvS 2, qvS 4, qvS 5], zh119, []), symsL 4 0, some ((.ofNat 182), [(5, (.negSucc 0))]), 0, 0)
noncomputable def c39_8_p1 : PE := (13, [0, 1, 2, 3, 4], (6, [qtN 0 0 60, qtA 1, qtN 2 0 60, qtN 3 0 60, qtN 4 0 60, qtN 5 0 60], [], [qvR 0, qvK (.ofNat 0), qvS 2, qvK (.negSucc 0), qvS 4], zh117, []), symsL 4 0, some ((.ofNat 182), [(4, (.negSucc 0))]), 0, 0)
noncomputable def c39_8_p2 : PE := (71, [0, 1, 2, 3, 4, 5], (10, [qtN 0 0 60, qtA 1, qtN 2 0 60, qtN 3 0 60, (4, (.negSucc 0), (.ofNat 127)), qtN 5 0 60, (6, (.negSucc 0), (.ofNat 59)), qtA 7, qtN 8 0 60, qtN 9 0 60], [], [qvR 0, qvK (.ofNat 0), qvS 2, qvS 4, qvS 5, qvS 6], zh120, []), symsL 4 0, some ((.ofNat 62), [(6, (.ofNat 1))]), 0, 0)
noncomputable def c39_8_pts : List PE := [c39_8_p0, c39_8_p1, c39_8_p2]
set_option maxRecDepth 100000 in
theorem c39_8_k : enCtF c39_8 c39_8_e (pkP (c39_8_pts ++ []) [1, 0]) (none) (noF, noM, 2361183241434822615040, 0, 4) 3000 = true := by decide +kernel
set_option maxRecDepth 100000 in
theorem c39_8_k0 : ptCtF c39_8 c39_8_e (pkP (c39_8_pts ++ []) [2, 1, 0]) (noF, noM, 2361183241434822615040, 0, 4) 3000 c39_8_p0 = true := by decide +kernel
set_option maxRecDepth 100000 in
theorem c39_8_k1 : ptCtF c39_8 c39_8_e (pkP (c39_8_pts ++ []) [2]) (noF, noM, 2361183241434822615040, 0, 4) 3000 c39_8_p1 = true := by decide +kernel
set_option maxRecDepth 100000 in
theorem c39_8_k2 : ptCtF c39_8 c39_8_e (pkP (c39_8_pts ++ []) [2]) (noF, noM, 2361183241434822615040, 0, 4) 3000 c39_8_p2 = true := by decide +kernel
set_option maxRecDepth 100000 in
theorem c39_8_v : ValidC PPk c39_8 := ct_ok fpk ⟨noF_ok, noM_ok⟩ (d := 67) (ext := []) (pts := c39_8_pts) (env := c39_8_e) rfl (List.forall_mem_cons.mpr ⟨⟨c40_0_v, Nat.le_of_ble_eq_true rfl⟩, List.forall_mem_cons.mpr ⟨⟨c41_16_v, Nat.le_of_ble_eq_true rfl⟩, List.forall_mem_cons.mpr ⟨⟨c41_17_v, Nat.le_of_ble_eq_true rfl⟩, List.forall_mem_cons.mpr ⟨⟨c44_0_v, Nat.le_of_ble_eq_true rfl⟩, fun _ h => (by cases h)⟩⟩⟩⟩) ext_nil (fun q h => (by cases h)) (enF c39_8_k) (List.forall_mem_cons.mpr ⟨⟨_, ptF c39_8_k0⟩, List.forall_mem_cons.mpr ⟨⟨_, ptF c39_8_k1⟩, List.forall_mem_cons.mpr ⟨⟨_, ptF c39_8_k2⟩, fun _ h => (by cases h)⟩⟩⟩)

noncomputable def c38_8 : Ct := (38, 69, (4, [qtN 0 0 60, qtA 1, qtN 2 0 60, qtN 3 0 60], [], [qvR 0, qvK (.ofNat 0)], zh115, []),
  [((7, [qtA 4, qtN 5 0 60, qtN 6 0 60], [], [], zh116, []), 0, 0)])
noncomputable def c38_8_e : List Ct := [c39_8, c40_0, c44_0]
noncomputable def c38_8_p0 : PE := (7, [0, 1, 2], (7, (zt18 []), [], [qvR 0, qvK (.ofNat 0), qvK (.ofNat 0)], zh116, []), symsL 4 0, some ((.ofNat 121), []), 0, 0)
noncomputable def c38_8_p1 : PE := (7, [0, 1, 2, 3], (9, [qtN 0 1 60, qtA 1, qtN 2 0 60, qtN 3 0 60, qtN 4 1 60, qtN 5 42 47, qtA 6, qtN 7 0 60, qtN 8 1 60], [], [qvR 0, qvK (.ofNat 0), qvS 4, qvS 5], zh121, []), symsL 4 0, some ((.ofNat 121), [(4, (.negSucc 0))]), 0, 0)
noncomputable def c38_8_pts : List PE := [c38_8_p0, c38_8_p1]
set_option maxRecDepth 100000 in
theorem c38_8_k : enCtF c38_8 c38_8_e (pkP (c38_8_pts ++ []) [0]) (none) (noF, noM, 128, 0, 4) 3000 = true := by decide +kernel
set_option maxRecDepth 100000 in
theorem c38_8_k0 : ptCtF c38_8 c38_8_e (pkP (c38_8_pts ++ []) [1]) (noF, noM, 128, 0, 4) 3000 c38_8_p0 = true := by decide +kernel
set_option maxRecDepth 100000 in
theorem c38_8_k1 : ptCtF c38_8 c38_8_e (pkP (c38_8_pts ++ []) [1]) (noF, noM, 128, 0, 4) 3000 c38_8_p1 = true := by decide +kernel
set_option maxRecDepth 100000 in
theorem c38_8_v : ValidC PPk c38_8 := ct_ok fpk ⟨noF_ok, noM_ok⟩ (d := 68) (ext := []) (pts := c38_8_pts) (env := c38_8_e) rfl (List.forall_mem_cons.mpr ⟨⟨c39_8_v, Nat.le_of_ble_eq_true rfl⟩, List.forall_mem_cons.mpr ⟨⟨c40_0_v, Nat.le_of_ble_eq_true rfl⟩, List.forall_mem_cons.mpr ⟨⟨c44_0_v, Nat.le_of_ble_eq_true rfl⟩, fun _ h => (by cases h)⟩⟩⟩) ext_nil (fun q h => (by cases h)) (enF c38_8_k) (List.forall_mem_cons.mpr ⟨⟨_, ptF c38_8_k0⟩, List.forall_mem_cons.mpr ⟨⟨_, ptF c38_8_k1⟩, fun _ h => (by cases h)⟩⟩)

noncomputable def c37_8 : Ct := (37, 70, (4, [qtN 0 0 60, qtA 1, qtN 2 0 60, qtN 3 0 60], [], [qvR 0, qvK (.ofNat 0)], zh115, []),
  [((7, [qtA 4, qtN 5 0 60, qtN 6 0 60], [], [], zh116, []), 0, 0)])
noncomputable def c37_8_e : List Ct := [c38_8, c40_0, c44_0]
noncomputable def c37_8_p0 : PE := (7, [0, 1, 2], (7, (zt18 []), [], [qvR 0, qvK (.ofNat 0), qvK (.ofNat 0)], zh116, []), symsL 4 0, some ((.ofNat 121), []), 0, 0)
noncomputable def c37_8_p1 : PE := (7, [0, 1, 2, 3], (9, [qtN 0 1 60, qtA 1, qtN 2 0 60, qtN 3 0 60, qtN 4 1 60, qtN 5 43 45, qtA 6, qtN 7 0 60, qtN 8 1 60], [], [qvR 0, qvK (.ofNat 0), qvS 4, qvS 5], zh121, []), symsL 4 0, some ((.ofNat 121), [(4, (.negSucc 0))]), 0, 0)
noncomputable def c37_8_pts : List PE := [c37_8_p0, c37_8_p1]
set_option maxRecDepth 100000 in
theorem c37_8_k : enCtF c37_8 c37_8_e (pkP (c37_8_pts ++ []) [0]) (none) (noF, noM, 128, 0, 4) 3000 = true := by decide +kernel
set_option maxRecDepth 100000 in
theorem c37_8_k0 : ptCtF c37_8 c37_8_e (pkP (c37_8_pts ++ []) [1]) (noF, noM, 128, 0, 4) 3000 c37_8_p0 = true := by decide +kernel
set_option maxRecDepth 100000 in
theorem c37_8_k1 : ptCtF c37_8 c37_8_e (pkP (c37_8_pts ++ []) [1]) (noF, noM, 128, 0, 4) 3000 c37_8_p1 = true := by decide +kernel
set_option maxRecDepth 100000 in
theorem c37_8_v : ValidC PPk c37_8 := ct_ok fpk ⟨noF_ok, noM_ok⟩ (d := 69) (ext := []) (pts := c37_8_pts) (env := c37_8_e) rfl (List.forall_mem_cons.mpr ⟨⟨c38_8_v, Nat.le_of_ble_eq_true rfl⟩, List.forall_mem_cons.mpr ⟨⟨c40_0_v, Nat.le_of_ble_eq_true rfl⟩, List.forall_mem_cons.mpr ⟨⟨c44_0_v, Nat.le_of_ble_eq_true rfl⟩, fun _ h => (by cases h)⟩⟩⟩) ext_nil (fun q h => (by cases h)) (enF c37_8_k) (List.forall_mem_cons.mpr ⟨⟨_, ptF c37_8_k0⟩, List.forall_mem_cons.mpr ⟨⟨_, ptF c37_8_k1⟩, fun _ h => (by cases h)⟩⟩)

noncomputable def c36_8 : Ct := (36, 71, (4, [qtN 0 0 60, qtA 1, qtN 2 0 60, qtN 3 0 60], [], [qvR 0, qvK (.ofNat 0)], zh115, []),
  [((7, [qtA 4, qtN 5 0 60, qtN 6 0 60], [], [], zh116, []), 0, 0)])
noncomputable def c36_8_e : List Ct := [c37_8, c40_0, c44_0]
noncomputable def c36_8_pts : List PE := []
set_option maxRecDepth 100000 in
theorem c36_8_k : enCtF c36_8 c36_8_e (pkP (c36_8_pts ++ []) []) (none) noH 3000 = true := by decide +kernel
set_option maxRecDepth 100000 in
theorem c36_8_v : ValidC PPk c36_8 := ct_ok fpk noH_ok (d := 70) (ext := []) (pts := c36_8_pts) (env := c36_8_e) rfl (List.forall_mem_cons.mpr ⟨⟨c37_8_v, Nat.le_of_ble_eq_true rfl⟩, List.forall_mem_cons.mpr ⟨⟨c40_0_v, Nat.le_of_ble_eq_true rfl⟩, List.forall_mem_cons.mpr ⟨⟨c44_0_v, Nat.le_of_ble_eq_true rfl⟩, fun _ h => (by cases h)⟩⟩⟩) ext_nil (fun q h => (by cases h)) (enF c36_8_k) (fun _ h => (by cases h))

noncomputable def c35_8 : Ct := (35, 72, (4, [qtN 0 0 60, qtA 1, qtN 2 0 60, qtN 3 0 60], [], [qvR 0, qvK (.ofNat 0)], zh115, []),
  [((7, [qtA 4, qtN 5 0 60, qtN 6 0 60], [], [], zh116, []), 0, 0)])
noncomputable def c35_8_e : List Ct := [c36_8, c40_0, c44_0]
noncomputable def c35_8_p0 : PE := (7, [0, 1, 2], (8, [qtN 0 0 60, qtA 1, qtN 2 0 60, qtN 3 0 60, qtN 4 0 60, qtA 5, qtN 6 0 60, qtN 7 0 60], [], [qvR 0, qvK (.ofNat 0), qvS 4], zh118, []), symsL 4 0, some ((.ofNat 121), [(4, (.negSucc 0))]), 0, 0)
noncomputable def c35_8_pts : List PE := [c35_8_p0]
set_option maxRecDepth 100000 in
theorem c35_8_k : enCtF c35_8 c35_8_e (pkP (c35_8_pts ++ []) [0]) (none) (noF, noM, 128, 0, 4) 3000 = true := by decide +kernel
set_option maxRecDepth 100000 in
theorem c35_8_k0 : ptCtF c35_8 c35_8_e (pkP (c35_8_pts ++ []) [0]) (noF, noM, 128, 0, 4) 3000 c35_8_p0 = true := by decide +kernel
set_option maxRecDepth 100000 in
theorem c35_8_v : ValidC PPk c35_8 := ct_ok fpk ⟨noF_ok, noM_ok⟩ (d := 71) (ext := []) (pts := c35_8_pts) (env := c35_8_e) rfl (List.forall_mem_cons.mpr ⟨⟨c36_8_v, Nat.le_of_ble_eq_true rfl⟩, List.forall_mem_cons.mpr ⟨⟨c40_0_v, Nat.le_of_ble_eq_true rfl⟩, List.forall_mem_cons.mpr ⟨⟨c44_0_v, Nat.le_of_ble_eq_true rfl⟩, fun _ h => (by cases h)⟩⟩⟩) ext_nil (fun q h => (by cases h)) (enF c35_8_k) (List.forall_mem_cons.mpr ⟨⟨_, ptF c35_8_k0⟩, fun _ h => (by cases h)⟩)

noncomputable def c34_8 : Ct := (34, 73, (4, [qtN 0 0 60, qtA 1, qtN 2 0 60, qtN 3 0 60], [], [qvR 0, qvK (.ofNat 0)], zh115, []),
  [((7, [qtA 4, qtN 5 0 60, qtN 6 0 60], [], [], zh116, []), 0, 0)])
noncomputable def c34_8_e : List Ct := [c35_8, c40_0, c44_0]
noncomputable def c34_8_p0 : PE := (7, [0, 1, 2], (8, [qtN 0 0 60, qtA 1, qtN 2 0 60, qtN 3 0 60, qtN 4 0 60, qtA 5, qtN 6 0 60, qtN 7 0 60], [], [qvR 0, qvK (.ofNat 0), qvS 4], zh118, []), symsL 4 0, some ((.ofNat 121), [(4, (.negSucc 0))]), 0, 0)
noncomputable def c34_8_pts : List PE := [c34_8_p0]
set_option maxRecDepth 100000 in
theorem c34_8_k : enCtF c34_8 c34_8_e (pkP (c34_8_pts ++ []) [0]) (none) (noF, noM, 128, 0, 4) 3000 = true := by decide +kernel
set_option maxRecDepth 100000 in
theorem c34_8_k0 : ptCtF c34_8 c34_8_e (pkP (c34_8_pts ++ []) [0]) (noF, noM, 128, 0, 4) 3000 c34_8_p0 = true := by decide +kernel
set_option maxRecDepth 100000 in
theorem c34_8_v : ValidC PPk c34_8 := ct_ok fpk ⟨noF_ok, noM_ok⟩ (d := 72) (ext := []) (pts := c34_8_pts) (env := c34_8_e) rfl (List.forall_mem_cons.mpr ⟨⟨c35_8_v, Nat.le_of_ble_eq_true rfl⟩, List.forall_mem_cons.mpr ⟨⟨c40_0_v, Nat.le_of_ble_eq_true rfl⟩, List.forall_mem_cons.mpr ⟨⟨c44_0_v, Nat.le_of_ble_eq_true rfl⟩, fun _ h => (by cases h)⟩⟩⟩) ext_nil (fun q h => (by cases h)) (enF c34_8_k) (List.forall_mem_cons.mpr ⟨⟨_, ptF c34_8_k0⟩, fun _ h => (by cases h)⟩)

noncomputable def c33_0 : Ct := (33, 74, (4, [qtN 0 0 60, qtA 1, qtN 2 0 60, qtN 3 0 60], [], [qvR 0], zh115, []),
  [((7, [qtA 4, qtN 5 0 60, qtN 6 0 60], [], [], zh116, []), 0, 0)])
noncomputable def c33_0_e : List Ct := [c34_8, c43_0]
noncomputable def c33_0_pts : List PE := []
set_option maxRecDepth 100000 in
theorem c33_0_k : enCtF c33_0 c33_0_e (pkP (c33_0_pts ++ []) []) (none) noH 3000 = true := by decide +kernel
set_option maxRecDepth 100000 in
theorem c33_0_v : ValidC PPk c33_0 := ct_ok fpk noH_ok (d := 73) (ext := []) (pts := c33_0_pts) (env := c33_0_e) rfl (List.forall_mem_cons.mpr ⟨⟨c34_8_v, Nat.le_of_ble_eq_true rfl⟩, List.forall_mem_cons.mpr ⟨⟨c43_0_v, Nat.le_of_ble_eq_true rfl⟩, fun _ h => (by cases h)⟩⟩) ext_nil (fun q h => (by cases h)) (enF c33_0_k) (fun _ h => (by cases h))

noncomputable def c32_0 : Ct := (32, 75, (5, [qtN 0 0 60, qtA 1, qtN 2 0 60, qtN 3 0 60, qtN 4 0 127], [], [qvR 0, qvS 4], zh115, []),
  [((9, [qtN 5 1 60, qtA 6, qtN 7 0 60, qtN 8 0 60], [], [], [qoC 5 [qvS 5, qvR 1, qvS 6, qvS 7, qvS 8, qvR 2, qvR 3], qiC 2 [qgN 60 0 127], qiC 0 [qgA 60], qjC 1 60], []), 0, 0)])
noncomputable def c32_0_e : List Ct := [c33_0]
noncomputable def c32_0_pts : List PE := []
set_option maxRecDepth 100000 in
theorem c32_0_k : enCtF c32_0 c32_0_e (pkP (c32_0_pts ++ []) []) (none) noH 3000 = true := by decide +kernel
set_option maxRecDepth 100000 in
theorem c32_0_v : ValidC PPk c32_0 := ct_ok fpk noH_ok (d := 74) (ext := []) (pts := c32_0_pts) (env := c32_0_e) rfl (List.forall_mem_cons.mpr ⟨⟨c33_0_v, Nat.le_of_ble_eq_true rfl⟩, fun _ h => (by cases h)⟩) ext_nil (fun q h => (by cases h)) (enF c32_0_k) (fun _ h => (by cases h))

noncomputable def zt19 (r : TbL) : TbL := qtN 0 1 4 :: qtA 1 :: qtA 2 :: qtN 3 1 1000 :: qtN 4 0 50 :: qtN 5 0 10 :: qtN 6 0 60 :: qtN 11 0 60 :: qtN 16 0 8 :: qtN 24 0 6 :: qtN 31 0 60 :: qtA 32 :: qtN 33 0 60 :: qtN 34 0 60 :: qtN 35 0 8 :: qtA 44 :: qtA 45 :: qtA 46 :: qtA 47 :: qtA 48 :: qtA 49 :: qtN 50 0 3 :: qtA 51 :: qtA 52 :: qtA 53 :: qtA 54 :: qtN 55 0 1 :: qtA 56 :: qtA 57 :: qtA 58 :: qtA 59 :: qtA 60 :: qtA 62 :: qtA 63 :: qtA 64 :: qtA 65 :: qtA 67 :: qtA 68 :: qtA 69 :: qtA 70 :: qtA 72 :: qtA 73 :: qtA 74 :: qtA 75 :: qtA 77 :: r
noncomputable def zh122 : AH := [zc12, zc31, qrC 4 [some 3, some 8], zc32, qkC 100 7, qkC 100 8, qkC 100 9, qkC 100 10, zc33, qkC 100 12, qkC 100 13, qkC 100 14, qkC 100 15, zc34, qkC 100 17, qkC 100 18, qkC 100 19, qkC 100 20, qkC 100 21, qkC 100 22, qkC 100 23, zc35, qkC 100 25, qkC 100 26, qkC 100 27, qkC 100 28, qkC 100 29, qkC 100 30, zc36, qiC 2 [qgN 60 0 127], qiC 0 [qgA 60], qjC 1 60, zc76, qkC 100 36, qkC 100 37, qkC 100 38, qkC 100 39, qkC 100 40, qkC 100 41, qkC 100 42, qkC 100 43, zc77, zc39, zc78, qkC 100 61, zc79, qkC 100 66, zc42, qkC 100 71, zc80, qkC 100 76, zc81, qkC 100 78, qkC 100 79, qkC 100 80, qkC 100 81, qkC 100 82, zc13, qjC 1 6, qjC 1 4, qrC 6 [none, none], qrC 7 [none, none]]
noncomputable def c31_0 : Ct := (31, 76, (84, (zt19 [qtA 83]), [], [qvR 0, qvS 83], zh122, [(0, [9, 10, 11, 12], []), (0, [4, 5, 6, 7], [])]),
  [((89, [(84, (.negSucc 3), (.ofNat 60)), qtN 85 0 60, qtA 86, qtN 87 0 60, qtN 88 0 60], [], [qvS 84], [zc12, zc31, qrC 4 [some 3, some 8], zc32, qkC 100 7, qkC 100 8, qkC 100 9, qkC 100 10, zc33, qkC 100 12, qkC 100 13, qkC 100 14, qkC 100 15, zc34, qkC 100 17, qkC 100 18, qkC 100 19, qkC 100 20, qkC 100 21, qkC 100 22, qkC 100 23, zc35, qkC 100 25, qkC 100 26, qkC 100 27, qkC 100 28, qkC 100 29, qkC 100 30, qoC 5 [qvS 85, qvR 29, qvS 86, qvS 87, qvS 88, qvR 30, qvR 31], qiC 2 [qgN 60 0 127], qiC 0 [qgA 60], qjC 1 60, zc76, qkC 100 36, qkC 100 37, qkC 100 38, qkC 100 39, qkC 100 40, qkC 100 41, qkC 100 42, qkC 100 43, zc77, zc39, zc78, qkC 100 61, zc79, qkC 100 66, zc42, qkC 100 71, zc80, qkC 100 76, zc81, qkC 100 78, qkC 100 79, qkC 100 80, qkC 100 81, qkC 100 82, zc13, qjC 1 6, qjC 1 4, qrC 6 [none, none], qrC 7 [none, none]], [(0, [9, 10, 11, 12], []), (0, [4, 5, 6, 7], [])]), 0, 0)])
noncomputable def c31_0_e : List Ct := [c12_0, c32_0]
noncomputable def c31_0_pts : List PE := []
set_option maxRecDepth 100000 in
theorem c31_0_k : enCtF c31_0 c31_0_e (pkP (c31_0_pts ++ []) []) (none) noH 3000 = true := by decide +kernel
set_option maxRecDepth 100000 in
theorem c31_0_v : ValidC PPk c31_0 := ct_ok fpk noH_ok (d := 75) (ext := []) (pts := c31_0_pts) (env := c31_0_e) rfl (List.forall_mem_cons.mpr ⟨⟨c12_0_v, Nat.le_of_ble_eq_true rfl⟩, List.forall_mem_cons.mpr ⟨⟨c32_0_v, Nat.le_of_ble_eq_true rfl⟩, fun _ h => (by cases h)⟩⟩) ext_nil (fun q h => (by cases h)) (enF c31_0_k) (fun _ h => (by cases h))

noncomputable def c158_0 : Ct := (158, 2, (37, (zt2 [qtA 34]), [((.ofNat 1), [(20, (.negSucc 0)), (21, (.negSucc 0)), (22, (.negSucc 0)), (23, (.negSucc 0))])], [qvR 0, qvS 34], zh48, [(2, [1], []), (1, [1], []), (9, [1], [((.ofNat 440), []), (sL 16), (sL 35)]), (9, [1], [((.ofNat 200), []), (sL 11), (sL 36)])]),
  [((39, [(37, (.negSucc 3), (.ofNat 60)), qtN 38 0 60], [], [qvS 37], [zc46, qiC 0 [qgS 10, qgS 11, qgS 12, qgS 13, qgS 14, qgS 38, qgS 16, qgS 17, qgA 5, qgN 1 0 3, qgS 18, qgA 2, qgN 1 1 1000, qgN 1 0 50, qgA 1, qgS 19, qgA 21, qgS 20, qgA 39, qgS 21, qgA 39, qgS 22, qgA 39, qgS 23, qgA 517, qgN 12 0 60, qgN 1 0 5, qgN 1 0 39, qgN 1 0 40, qgN 1 0 5, qgN 1 0 39, qgN 1 0 40, qgN 1 0 5, qgN 1 0 39, qgN 1 0 40, qgN 1 0 5, qgN 1 0 39, qgN 1 0 40, qgN 1 0 5, qgN 1 0 39, qgN 1 0 40, qgN 1 0 5, qgN 1 0 39, qgN 1 0 40, qgN 1 0 5, qgN 1 0 39, qgN 1 0 40, qgN 1 0 5, qgN 1 0 39, qgN 1 0 40, qgA 76, qgA 2, qgN 1 0 5, qgA 2, qgA 2, qgN 1 0 5, qgA 2, qgA 2, qgN 1 0 5, qgA 2, qgA 2, qgN 1 0 5, qgA 2, qgA 2, qgN 1 0 5, qgA 2, qgA 2, qgN 1 0 5, qgA 2, qgA 2, qgN 1 0 5, qgA 2, qgA 2, qgN 1 0 5, qgA 2, qgN 60 0 127, qgA 18], qkC 100 24, qkC 103 25, qkC 100 26, qkC 100 27, qkC 100 28, qjC 1 70, qjC 1 8, qkC 100 29, qkC 100 30, qkC 100 31, qkC 100 32, qkC 100 33, qjC 1 4], [(2, [1], []), (1, [1], []), (9, [1], [((.ofNat 440), []), (sL 16), (sL 35)]), (9, [1], [((.ofNat 200), []), (sL 11), (sL 36)])]), 0, 0)])
noncomputable def c158_0_e : List Ct := [c145_0]
noncomputable def c158_0_pts : List PE := []
set_option maxRecDepth 100000 in
theorem c158_0_k : enCtF c158_0 c158_0_e (pkP (c158_0_pts ++ []) []) (none) noH 3000 = true := by decide +kernel
set_option maxRecDepth 100000 in
theorem c158_0_v : ValidC PPk c158_0 := ct_ok fpk noH_ok (d := 1) (ext := []) (pts := c158_0_pts) (env := c158_0_e) rfl (List.forall_mem_cons.mpr ⟨⟨c145_0_v, Nat.le_of_ble_eq_true rfl⟩, fun _ h => (by cases h)⟩) ext_nil (fun q h => (by cases h)) (enF c158_0_k) (fun _ h => (by cases h))

noncomputable def c47_0 : Ct := (47, 75, (4, [qtN 0 0 60, qtA 1, qtN 2 0 60, qtN 3 0 60], [], [qvR 0], zh115, []),
  [((7, [qtA 4, qtN 5 0 60, qtN 6 0 60], [], [], [qoC 5 [qvK (.ofNat 0), qvR 1, qvS 4, qvS 5, qvS 6, qvR 2, qvR 3], qiC 2 [qgN 60 0 127], qiC 0 [qgA 60], qjC 1 60], []), 0, 0)])
noncomputable def c47_0_e : List Ct := [c33_0]
noncomputable def c47_0_pts : List PE := []
set_option maxRecDepth 100000 in
theorem c47_0_k : enCtF c47_0 c47_0_e (pkP (c47_0_pts ++ []) []) (none) noH 3000 = true := by decide +kernel
set_option maxRecDepth 100000 in
theorem c47_0_v : ValidC PPk c47_0 := ct_ok fpk noH_ok (d := 74) (ext := []) (pts := c47_0_pts) (env := c47_0_e) rfl (List.forall_mem_cons.mpr ⟨⟨c33_0_v, Nat.le_of_ble_eq_true rfl⟩, fun _ h => (by cases h)⟩) ext_nil (fun q h => (by cases h)) (enF c47_0_k) (fun _ h => (by cases h))

noncomputable def c46_0 : Ct := (46, 76, (83, (zt19 []), [], [qvR 0], zh122, [(0, [9, 10, 11, 12], []), (0, [4, 5, 6, 7], [])]),
  [((86, [qtA 83, qtN 84 0 60, qtN 85 0 60], [], [qvS 31], [zc12, zc31, qrC 4 [some 3, some 8], zc32, qkC 100 7, qkC 100 8, qkC 100 9, qkC 100 10, zc33, qkC 100 12, qkC 100 13, qkC 100 14, qkC 100 15, zc34, qkC 100 17, qkC 100 18, qkC 100 19, qkC 100 20, qkC 100 21, qkC 100 22, qkC 100 23, zc35, qkC 100 25, qkC 100 26, qkC 100 27, qkC 100 28, qkC 100 29, qkC 100 30, qoC 5 [qvK (.ofNat 0), qvR 29, qvS 83, qvS 84, qvS 85, qvR 30, qvR 31], qiC 2 [qgN 60 0 127], qiC 0 [qgA 60], qjC 1 60, zc76, qkC 100 36, qkC 100 37, qkC 100 38, qkC 100 39, qkC 100 40, qkC 100 41, qkC 100 42, qkC 100 43, zc77, zc39, zc78, qkC 100 61, zc79, qkC 100 66, zc42, qkC 100 71, zc80, qkC 100 76, zc81, qkC 100 78, qkC 100 79, qkC 100 80, qkC 100 81, qkC 100 82, zc13, qjC 1 6, qjC 1 4, qrC 6 [none, none], qrC 7 [none, none]], [(0, [9, 10, 11, 12], []), (0, [4, 5, 6, 7], [])]), 0, 0)])
noncomputable def c46_0_e : List Ct := [c47_0]
noncomputable def c46_0_pts : List PE := []
set_option maxRecDepth 100000 in
theorem c46_0_k : enCtF c46_0 c46_0_e (pkP (c46_0_pts ++ []) []) (none) noH 3000 = true := by decide +kernel
set_option maxRecDepth 100000 in
theorem c46_0_v : ValidC PPk c46_0 := ct_ok fpk noH_ok (d := 75) (ext := []) (pts := c46_0_pts) (env := c46_0_e) rfl (List.forall_mem_cons.mpr ⟨⟨c47_0_v, Nat.le_of_ble_eq_true rfl⟩, fun _ h => (by cases h)⟩) ext_nil (fun q h => (by cases h)) (enF c46_0_k) (fun _ h => (by cases h))

noncomputable def c159_0 : Ct := (159, 1, (36, (zt2 []), [((.ofNat 1), [(20, (.negSucc 0)), (21, (.negSucc 0)), (22, (.negSucc 0)), (23, (.negSucc 0))])], [qvR 0], zh48, [(2, [1], []), (1, [1], []), (9, [1], [((.ofNat 440), []), (sL 16), (sL 34)]), (9, [1], [((.ofNat 200), []), (sL 11), (sL 35)])]),
  [((36, [], [], [qvS 15], [zc46, qiC 0 [qgS 10, qgS 11, qgS 12, qgS 13, qgS 14, .inl ((.ofNat 0), []), qgS 16, qgS 17, qgA 5, qgN 1 0 3, qgS 18, qgA 2, qgN 1 1 1000, qgN 1 0 50, qgA 1, qgS 19, qgA 21, qgS 20, qgA 39, qgS 21, qgA 39, qgS 22, qgA 39, qgS 23, qgA 517, qgN 12 0 60, qgN 1 0 5, qgN 1 0 39, qgN 1 0 40, qgN 1 0 5, qgN 1 0 39, qgN 1 0 40, qgN 1 0 5, qgN 1 0 39, qgN 1 0 40, qgN 1 0 5, qgN 1 0 39, qgN 1 0 40, qgN 1 0 5, qgN 1 0 39, qgN 1 0 40, qgN 1 0 5, qgN 1 0 39, qgN 1 0 40, qgN 1 0 5, qgN 1 0 39, qgN 1 0 40, qgN 1 0 5, qgN 1 0 39, qgN 1 0 40, qgA 76, qgA 2, qgN 1 0 5, qgA 2, qgA 2, qgN 1 0 5, qgA 2, qgA 2, qgN 1 0 5, qgA 2, qgA 2, qgN 1 0 5, qgA 2, qgA 2, qgN 1 0 5, qgA 2, qgA 2, qgN 1 0 5, qgA 2, qgA 2, qgN 1 0 5, qgA 2, qgA 2, qgN 1 0 5, qgA 2, qgN 60 0 127, qgA 18], qkC 100 24, qkC 103 25, qkC 100 26, qkC 100 27, qkC 100 28, qjC 1 70, qjC 1 8, qkC 100 29, qkC 100 30, qkC 100 31, qkC 100 32, qkC 100 33, qjC 1 4], [(2, [1], []), (1, [1], []), (9, [1], [((.ofNat 440), []), (sL 16), (sL 34)]), (9, [1], [((.ofNat 200), []), (sL 11), (sL 35)])]), 0, 0)])
noncomputable def c159_0_e : List Ct := []
noncomputable def c159_0_pts : List PE := []
set_option maxRecDepth 100000 in
theorem c159_0_k : enCtF c159_0 c159_0_e (pkP (c159_0_pts ++ []) []) (none) noH 3000 = true := by decide +kernel
set_option maxRecDepth 100000 in
theorem c159_0_v : ValidC PPk c159_0 := ct_ok fpk noH_ok (d := 0) (ext := []) (pts := c159_0_pts) (env := c159_0_e) rfl (fun _ h => (by cases h)) ext_nil (fun q h => (by cases h)) (enF c159_0_k) (fun _ h => (by cases h))

noncomputable def c48_0 : Ct := (48, 1, (85, (zt15 []), [], [qvR 0], zh98, [(0, [9, 10, 11, 12], []), (0, [4, 5, 6, 7], [])]),
  [((85, [], [], [qvS 32], zh98, [(0, [9, 10, 11, 12], []), (0, [4, 5, 6, 7], [])]), 0, 0)])
noncomputable def c48_0_e : List Ct := []
noncomputable def c48_0_pts : List PE := []
set_option maxRecDepth 100000 in
theorem c48_0_k : enCtF c48_0 c48_0_e (pkP (c48_0_pts ++ []) []) (none) noH 3000 = true := by decide +kernel
set_option maxRecDepth 100000 in
theorem c48_0_v : ValidC PPk c48_0 := ct_ok fpk noH_ok (d := 0) (ext := []) (pts := c48_0_pts) (env := c48_0_e) rfl (fun _ h => (by cases h)) ext_nil (fun q h => (by cases h)) (enF c48_0_k) (fun _ h => (by cases h))

noncomputable def c163_0 : Ct := (163, 1, (1, [qtA 0], [], [qvS 0], [], []),
  [((1, [], [], [qvK (.ofNat 0)], [], []), 0, 0),
   ((1, [qtN 0 2 3], [], [qvK (.ofNat 6)], [], []), 0, 0),
   ((1, [qtN 0 4 5], [], [qvK (.ofNat 5)], [], []), 0, 0),
   ((1, [qtN 0 6 7], [], [qvK (.ofNat 4)], [], []), 0, 0),
   ((1, [qtN 0 8 10], [], [qvK (.ofNat 3)], [], []), 0, 0),
   ((1, [qtN 0 11 11], [], [qvK (.ofNat 2)], [], []), 0, 0),
   ((1, [qtN 0 12 12], [], [qvK (.ofNat 1)], [], []), 0, 0)])
noncomputable def c163_0_e : List Ct := []
noncomputable def c163_0_pts : List PE := []
set_option maxRecDepth 100000 in
theorem c163_0_k : enCtF c163_0 c163_0_e (pkP (c163_0_pts ++ []) []) (none) noH 3000 = true := by decide +kernel
set_option maxRecDepth 100000 in
theorem c163_0_v : ValidC PPk c163_0 := ct_ok fpk noH_ok (d := 0) (ext := []) (pts := c163_0_pts) (env := c163_0_e) rfl (fun _ h => (by cases h)) ext_nil (fun q h => (by cases h)) (enF c163_0_k) (fun _ h => (by cases h))

noncomputable def zh123 : AH := [zc46, qkC 100 10, qkC 100 11, qkC 103 12, qiC 0 [qgA 70], qiC 0 [qgA 70], qkC 100 13, qjC 1 70, qjC 1 8, qkC 100 14, qkC 100 15, qkC 100 16, qkC 100 17, qkC 100 18, qjC 1 4]
noncomputable def zh124 : AH := [qoC 12 [qvR 1, qvR 2, qvR 3, .inl (false, ((.ofNat 1), [(0, (.ofNat 1))])), qvR 4, qvR 5, qvS 1, qvR 6, qvR 7, qvS 2, qvR 8, qvS 3, qvR 9, qvR 10, qvR 11, qvR 12, qvS 4, qvS 5, qvS 6, qvR 13, qvS 7, qvS 8, qvS 9, qvR 14], qkC 100 10, qkC 100 11, qkC 103 12, qiC 0 [qgA 70], qiC 0 [qgA 70], qkC 100 13, qjC 1 70, qjC 1 8, qkC 100 14, qkC 100 15, qkC 100 16, qkC 100 17, qkC 100 18, qjC 1 4]
noncomputable def c164_0 : Ct := (164, 1, (21, (zt5 [qtA 19, qtA 20]), [], [qvR 0, qvS 19, qvS 20], zh123, [(2, [1], []), (1, [1], [])]),
  [((21, [], [], [], zh124, [(2, [1], []), (1, [1], [])]), 0, 0)])
noncomputable def c164_0_e : List Ct := []
noncomputable def c164_0_pts : List PE := []
set_option maxRecDepth 100000 in
theorem c164_0_k : enCtF c164_0 c164_0_e (pkP (c164_0_pts ++ []) []) (none) ((hOr (hSplit 0 103 ) (hOr (atPc 1 (fConst 4 4 103)) (atPc 30 (fCode 4 103)))), noM, 0, 1073741827, 21) 3000 = true := by decide +kernel
set_option maxRecDepth 100000 in
theorem c164_0_v : ValidC PPk c164_0 := ct_ok fpk ⟨(hOr_ok (hSplit_ok 0 103 ) (hOr_ok (atPc_ok (fConst_ok 4 4 103)) (atPc_ok (fCode_ok 4 103)))), noM_ok⟩ (d := 0) (ext := []) (pts := c164_0_pts) (env := c164_0_e) rfl (fun _ h => (by cases h)) ext_nil (fun q h => (by cases h)) (enF c164_0_k) (fun _ h => (by cases h))

noncomputable def zh125 : AH := [zc46, qkC 100 10, qkC 100 11, qkC 103 12, qiC 0 [qgA 70], qiC 0 [qgA 70], qiC 0 [qgA 70], qjC 1 70, qjC 1 8, qkC 100 13, qkC 100 14, qkC 100 15, qkC 100 16, qkC 100 17, qjC 1 4]
noncomputable def zh126 : AH := [qoC 12 [qvR 1, qvR 2, qvR 3, .inl (false, ((.ofNat 0), [(0, (.ofNat 1)), (1, (.ofNat 1))])), qvR 4, qvR 5, qvK (.ofNat 0), qvR 6, qvR 7, qvS 2, qvR 8, qvS 3, qvR 9, qvR 10, qvR 11, qvR 12, qvS 4, qvS 5, qvS 6, qvR 13, qvS 7, qvS 8, qvS 9, qvR 14], qkC 100 10, qkC 100 11, qkC 103 12, qiC 0 [qgA 70], qiC 0 [qgA 70], qiC 0 [qgA 70], qjC 1 70, qjC 1 8, qkC 100 13, qkC 100 14, qkC 100 15, qkC 100 16, qkC 100 17, qjC 1 4]
noncomputable def zt20 (r : TbL) : TbL := qtN 0 0 69 :: qtN 1 1 69 :: qtN 2 0 8 :: qtA 3 :: qtA 4 :: qtA 5 :: qtA 6 :: qtA 7 :: qtA 8 :: qtA 9 :: r
noncomputable def zh127 : AH := [qoC 12 [qvR 1, qvR 2, qvR 3, .inl (false, ((.negSucc 0), [(0, (.ofNat 1)), (1, (.ofNat 1))])), qvR 4, qvR 5, qvK (.ofNat 1), qvR 6, qvR 7, qvS 2, qvR 8, qvS 3, qvR 9, qvR 10, qvR 11, qvR 12, qvS 4, qvS 5, qvS 6, qvR 13, qvS 7, qvS 8, qvS 9, qvR 14], qkC 100 10, qkC 100 11, qkC 103 12, qiC 0 [qgA 70], qiC 0 [qgA 70], qiC 0 [qgA 70], qjC 1 70, qjC 1 8, qkC 100 13, qkC 100 14, qkC 100 15, qkC 100 16, qkC 100 17, qjC 1 4]
noncomputable def zt21 (r : TbL) : TbL := qtN 0 0 69 :: qtN 1 10 69 :: qtN 2 0 8 :: qtA 3 :: qtA 4 :: qtA 5 :: qtA 6 :: qtA 7 :: qtA 8 :: qtA 9 :: r
noncomputable def zh128 : AH := [qoC 12 [qvR 1, qvR 2, qvR 3, .inl (false, ((.negSucc 9), [(0, (.ofNat 1)), (1, (.ofNat 1))])), qvR 4, qvR 5, qvK (.ofNat 10), qvR 6, qvR 7, qvS 2, qvR 8, qvS 3, qvR 9, qvR 10, qvR 11, qvR 12, qvS 4, qvS 5, qvS 6, qvR 13, qvS 7, qvS 8, qvS 9, qvR 14], qkC 100 10, qkC 100 11, qkC 103 12, qiC 0 [qgA 70], qiC 0 [qgA 70], qiC 0 [qgA 70], qjC 1 70, qjC 1 8, qkC 100 13, qkC 100 14, qkC 100 15, qkC 100 16, qkC 100 17, qjC 1 4]
noncomputable def zt22 (r : TbL) : TbL := qtN 0 0 69 :: qtN 1 11 69 :: qtN 2 0 8 :: qtA 3 :: qtA 4 :: qtA 5 :: qtA 6 :: qtA 7 :: qtA 8 :: qtA 9 :: r
noncomputable def zh129 : AH := [qoC 12 [qvR 1, qvR 2, qvR 3, .inl (false, ((.negSucc 10), [(0, (.ofNat 1)), (1, (.ofNat 1))])), qvR 4, qvR 5, qvK (.ofNat 11), qvR 6, qvR 7, qvS 2, qvR 8, qvS 3, qvR 9, qvR 10, qvR 11, qvR 12, qvS 4, qvS 5, qvS 6, qvR 13, qvS 7, qvS 8, qvS 9, qvR 14], qkC 100 10, qkC 100 11, qkC 103 12, qiC 0 [qgA 70], qiC 0 [qgA 70], qiC 0 [qgA 70], qjC 1 70, qjC 1 8, qkC 100 13, qkC 100 14, qkC 100 15, qkC 100 16, qkC 100 17, qjC 1 4]
noncomputable def zt23 (r : TbL) : TbL := qtN 0 0 69 :: qtN 1 12 69 :: qtN 2 0 8 :: qtA 3 :: qtA 4 :: qtA 5 :: qtA 6 :: qtA 7 :: qtA 8 :: qtA 9 :: r
noncomputable def zh130 : AH := [qoC 12 [qvR 1, qvR 2, qvR 3, .inl (false, ((.negSucc 11), [(0, (.ofNat 1)), (1, (.ofNat 1))])), qvR 4, qvR 5, qvK (.ofNat 12), qvR 6, qvR 7, qvS 2, qvR 8, qvS 3, qvR 9, qvR 10, qvR 11, qvR 12, qvS 4, qvS 5, qvS 6, qvR 13, qvS 7, qvS 8, qvS 9, qvR 14], qkC 100 10, qkC 100 11, qkC 103 12, qiC 0 [qgA 70], qiC 0 [qgA 70], qiC 0 [qgA 70], qjC 1 70, qjC 1 8, qkC 100 13, qkC 100 14, qkC 100 15, qkC 100 16, qkC 100 17, qjC 1 4]
noncomputable def zt24 (r : TbL) : TbL := qtN 0 0 69 :: qtN 1 13 69 :: qtN 2 0 8 :: qtA 3 :: qtA 4 :: qtA 5 :: qtA 6 :: qtA 7 :: qtA 8 :: qtA 9 :: r
noncomputable def zh131 : AH := [qoC 12 [qvR 1, qvR 2, qvR 3, .inl (false, ((.negSucc 12), [(0, (.ofNat 1)), (1, (.ofNat 1))])), qvR 4, qvR 5, qvK (.ofNat 13), qvR 6, qvR 7, qvS 2, qvR 8, qvS 3, qvR 9, qvR 10, qvR 11, qvR 12, qvS 4, qvS 5, qvS 6, qvR 13, qvS 7, qvS 8, qvS 9, qvR 14], qkC 100 10, qkC 100 11, qkC 103 12, qiC 0 [qgA 70], qiC 0 [qgA 70], qiC 0 [qgA 70], qjC 1 70, qjC 1 8, qkC 100 13, qkC 100 14, qkC 100 15, qkC 100 16, qkC 100 17, qjC 1 4]
noncomputable def zt25 (r : TbL) : TbL := qtN 0 0 69 :: qtN 1 14 69 :: qtN 2 0 8 :: qtA 3 :: qtA 4 :: qtA 5 :: qtA 6 :: qtA 7 :: qtA 8 :: qtA 9 :: r
noncomputable def zh132 : AH := [qoC 12 [qvR 1, qvR 2, qvR 3, .inl (false, ((.negSucc 13), [(0, (.ofNat 1)), (1, (.ofNat 1))])), qvR 4, qvR 5, qvK (.ofNat 14), qvR 6, qvR 7, qvS 2, qvR 8, qvS 3, qvR 9, qvR 10, qvR 11, qvR 12, qvS 4, qvS 5, qvS 6, qvR 13, qvS 7, qvS 8, qvS 9, qvR 14], qkC 100 10, qkC 100 11, qkC 103 12, qiC 0 [qgA 70], qiC 0 [qgA 70], qiC 0 [qgA 70], qjC 1 70, qjC 1 8, qkC 100 13, qkC 100 14, qkC 100 15, qkC 100 16, qkC 100 17, qjC 1 4]
noncomputable def zt26 (r : TbL) : TbL := qtN 0 0 69 :: qtN 1 15 69 :: qtN 2 0 8 :: qtA 3 :: qtA 4 :: qtA 5 :: qtA 6 :: qtA 7 :: qtA 8 :: qtA 9 :: r
noncomputable def zh133 : AH := [qoC 12 [qvR 1, qvR 2, qvR 3, .inl (false, ((.negSucc 14), [(0, (.ofNat 1)), (1, (.ofNat 1))])), qvR 4, qvR 5, qvK (.ofNat 15), qvR 6, qvR 7, qvS 2, qvR 8, qvS 3, qvR 9, qvR 10, qvR 11, qvR 12, qvS 4, qvS 5, qvS 6, qvR 13, qvS 7, qvS 8, qvS 9, qvR 14], qkC 100 10, qkC 100 11, qkC 103 12, qiC 0 [qgA 70], qiC 0 [qgA 70], qiC 0 [qgA 70], qjC 1 70, qjC 1 8, qkC 100 13, qkC 100 14, qkC 100 15, qkC 100 16, qkC 100 17, qjC 1 4]
noncomputable def zt27 (r : TbL) : TbL := qtN 0 0 69 :: qtN 1 16 69 :: qtN 2 0 8 :: qtA 3 :: qtA 4 :: qtA 5 :: qtA 6 :: qtA 7 :: qtA 8 :: qtA 9 :: r
noncomputable def zh134 : AH := [qoC 12 [qvR 1, qvR 2, qvR 3, .inl (false, ((.negSucc 15), [(0, (.ofNat 1)), (1, (.ofNat 1))])), qvR 4, qvR 5, qvK (.ofNat 16), qvR 6, qvR 7, qvS 2, qvR 8, qvS 3, qvR 9, qvR 10, qvR 11, qvR 12, qvS 4, qvS 5, qvS 6, qvR 13, qvS 7, qvS 8, qvS 9, qvR 14], qkC 100 10, qkC 100 11, qkC 103 12, qiC 0 [qgA 70], qiC 0 [qgA 70], qiC 0 [qgA 70], qjC 1 70, qjC 1 8, qkC 100 13, qkC 100 14, qkC 100 15, qkC 100 16, qkC 100 17, qjC 1 4]
noncomputable def zt28 (r : TbL) : TbL := qtN 0 0 69 :: qtN 1 17 69 :: qtN 2 0 8 :: qtA 3 :: qtA 4 :: qtA 5 :: qtA 6 :: qtA 7 :: qtA 8 :: qtA 9 :: r
noncomputable def zh135 : AH := [qoC 12 [qvR 1, qvR 2, qvR 3, .inl (false, ((.negSucc 16), [(0, (.ofNat 1)), (1, (.ofNat 1))])), qvR 4, qvR 5, qvK (.ofNat 17), qvR 6, qvR 7, qvS 2, qvR 8, qvS 3, qvR 9, qvR 10, qvR 11, qvR 12, qvS 4, qvS 5, qvS 6, qvR 13, qvS 7, qvS 8, qvS 9, qvR 14], qkC 100 10, qkC 100 11, qkC 103 12, qiC 0 [qgA 70], qiC 0 [qgA 70], qiC 0 [qgA 70], qjC 1 70, qjC 1 8, qkC 100 13, qkC 100 14, qkC 100 15, qkC 100 16, qkC 100 17, qjC 1 4]
noncomputable def zt29 (r : TbL) : TbL := qtN 0 0 69 :: qtN 1 18 69 :: qtN 2 0 8 :: qtA 3 :: qtA 4 :: qtA 5 :: qtA 6 :: qtA 7 :: qtA 8 :: qtA 9 :: r
noncomputable def zh136 : AH := [qoC 12 [qvR 1, qvR 2, qvR 3, .inl (false, ((.negSucc 17), [(0, (.ofNat 1)), (1, (.ofNat 1))])), qvR 4, qvR 5, qvK (.ofNat 18), qvR 6, qvR 7, qvS 2, qvR 8, qvS 3, qvR 9, qvR 10, qvR 11, qvR 12, qvS 4, qvS 5, qvS 6, qvR 13, qvS 7, qvS 8, qvS 9, qvR 14], qkC 100 10, qkC 100 11, qkC 103 12, qiC 0 [qgA 70], qiC 0 [qgA 70], qiC 0 [qgA 70], qjC 1 70, qjC 1 8, qkC 100 13, qkC 100 14, qkC 100 15, qkC 100 16, qkC 100 17, qjC 1 4]
noncomputable def zt30 (r : TbL) : TbL := qtN 0 0 69 :: qtN 1 19 69 :: qtN 2 0 8 :: qtA 3 :: qtA 4 :: qtA 5 :: qtA 6 :: qtA 7 :: qtA 8 :: qtA 9 :: r
noncomputable def zh137 : AH := [qoC 12 [qvR 1, qvR 2, qvR 3, .inl (false, ((.negSucc 18), [(0, (.ofNat 1)), (1, (.ofNat 1))])), qvR 4, qvR 5, qvK (.ofNat 19), qvR 6, qvR 7, qvS 2, qvR 8, qvS 3, qvR 9, qvR 10, qvR 11, qvR 12, qvS 4, qvS 5, qvS 6, qvR 13, qvS 7, qvS 8, qvS 9, qvR 14], qkC 100 10, qkC 100 11, qkC 103 12, qiC 0 [qgA 70], qiC 0 [qgA 70], qiC 0 [qgA 70], qjC 1 70, qjC 1 8, qkC 100 13, qkC 100 14, qkC 100 15, qkC 100 16, qkC 100 17, qjC 1 4]
noncomputable def zt31 (r : TbL) : TbL := qtN 0 0 69 :: qtN 1 2 69 :: qtN 2 0 8 :: qtA 3 :: qtA 4 :: qtA 5 :: qtA 6 :: qtA 7 :: qtA 8 :: qtA 9 :: r
noncomputable def zh138 : AH := [qoC 12 [qvR 1, qvR 2, qvR 3, .inl (false, ((.negSucc 1), [(0, (.ofNat 1)), (1, (.ofNat 1))])), qvR 4, qvR 5, qvK (.ofNat 2), qvR 6, qvR 7, qvS 2, qvR 8, qvS 3, qvR 9, qvR 10, qvR 11, qvR 12, qvS 4, qvS 5, qvS 6, qvR 13, qvS 7, qvS 8, qvS 9, qvR 14], qkC 100 10, qkC 100 11, qkC 103 12, qiC 0 [qgA 70], qiC 0 [qgA 70], qiC 0 [qgA 70], qjC 1 70, qjC 1 8, qkC 100 13, qkC 100 14, qkC 100 15, qkC 100 16, qkC 100 17, qjC 1 4]
noncomputable def zt32 (r : TbL) : TbL := qtN 0 0 69 :: qtN 1 20 69 :: qtN 2 0 8 :: qtA 3 :: qtA 4 :: qtA 5 :: qtA 6 :: qtA 7 :: qtA 8 :: qtA 9 :: r
noncomputable def zh139 : AH := [qoC 12 [qvR 1, qvR 2, qvR 3, .inl (false, ((.negSucc 19), [(0, (.ofNat 1)), (1, (.ofNat 1))])), qvR 4, qvR 5, qvK (.ofNat 20), qvR 6, qvR 7, qvS 2, qvR 8, qvS 3, qvR 9, qvR 10, qvR 11, qvR 12, qvS 4, qvS 5, qvS 6, qvR 13, qvS 7, qvS 8, qvS 9, qvR 14], qkC 100 10, qkC 100 11, qkC 103 12, qiC 0 [qgA 70], qiC 0 [qgA 70], qiC 0 [qgA 70], qjC 1 70, qjC 1 8, qkC 100 13, qkC 100 14, qkC 100 15, qkC 100 16, qkC 100 17, qjC 1 4]
noncomputable def zt33 (r : TbL) : TbL := qtN 0 0 69 :: qtN 1 21 69 :: qtN 2 0 8 :: qtA 3 :: qtA 4 :: qtA 5 :: qtA 6 :: qtA 7 :: qtA 8 :: qtA 9 :: r
noncomputable def zh140 : AH := [qoC 12 [qvR 1, qvR 2, qvR 3, .inl (false, ((.negSucc 20), [(0, (.ofNat 1)), (1, (.ofNat 1))])), qvR 4, qvR 5, qvK (.ofNat 21), qvR 6, qvR 7, qvS 2, qvR 8, qvS 3, qvR 9, qvR 10, qvR 11, qvR 12, qvS 4, qvS 5, qvS 6, qvR 13, qvS 7, qvS 8, qvS 9, qvR 14], qkC 100 10, qkC 100 11, qkC 103 12, qiC 0 [qgA 70], qiC 0 [qgA 70], qiC 0 [qgA 70], qjC 1 70, qjC 1 8, qkC 100 13, qkC 100 14, qkC 100 15, qkC 100 16, qkC 100 17, qjC 1 4]
noncomputable def zt34 (r : TbL) : TbL := qtN 0 0 69 :: qtN 1 22 69 :: qtN 2 0 8 :: qtA 3 :: qtA 4 :: qtA 5 :: qtA 6 :: qtA 7 :: qtA 8 :: qtA 9 :: r
noncomputable def zh141 : AH := [qoC 12 [qvR 1, qvR 2, qvR 3, .inl (false, ((.negSucc 21), [(0, (.ofNat 1)), (1, (.ofNat 1))])), qvR 4, qvR 5, qvK (.ofNat 22), qvR 6, qvR 7, qvS 2, qvR 8, qvS 3, qvR 9, qvR 10, qvR 11, qvR 12, qvS 4, qvS 5, qvS 6, qvR 13, qvS 7, qvS 8, qvS 9, qvR 14], qkC 100 10, qkC 100 11, qkC 103 12, qiC 0 [qgA 70], qiC 0 [qgA 70], qiC 0 [qgA 70], qjC 1 70, qjC 1 8, qkC 100 13, qkC 100 14, qkC 100 15, qkC 100 16, qkC 100 17, qjC 1 4]
noncomputable def zt35 (r : TbL) : TbL := qtN 0 0 69 :: qtN 1 23 69 :: qtN 2 0 8 :: qtA 3 :: qtA 4 :: qtA 5 :: qtA 6 :: qtA 7 :: qtA 8 :: qtA 9 :: r
noncomputable def zh142 : AH := [qoC 12 [qvR 1, qvR 2, qvR 3, .inl (false, ((.negSucc 22), [(0, (.ofNat 1)), (1, (.ofNat 1))])), qvR 4, qvR 5, qvK (.ofNat 23), qvR 6, qvR 7, qvS 2, qvR 8, qvS 3, qvR 9, qvR 10, qvR 11, qvR 12, qvS 4, qvS 5, qvS 6, qvR 13, qvS 7, qvS 8, qvS 9, qvR 14], qkC 100 10, qkC 100 11, qkC 103 12, qiC 0 [qgA 70], qiC 0 [qgA 70], qiC 0 [qgA 70], qjC 1 70, qjC 1 8, qkC 100 13, qkC 100 14, qkC 100 15, qkC 100 16, qkC 100 17, qjC 1 4]
noncomputable def zt36 (r : TbL) : TbL := qtN 0 0 69 :: qtN 1 24 69 :: qtN 2 0 8 :: qtA 3 :: qtA 4 :: qtA 5 :: qtA 6 :: qtA 7 :: qtA 8 :: qtA 9 :: r
noncomputable def zh143 : AH := [qoC 12 [qvR 1, qvR 2, qvR 3, .inl (false, ((.negSucc 23), [(0, (.ofNat 1)), (1, (.ofNat 1))])), qvR 4, qvR 5, qvK (.ofNat 24), qvR 6, qvR 7, qvS 2, qvR 8, qvS 3, qvR 9, qvR 10, qvR 11, qvR 12, qvS 4, qvS 5, qvS 6, qvR 13, qvS 7, qvS 8, qvS 9, qvR 14], qkC 100 10, qkC 100 11, qkC 103 12, qiC 0 [qgA 70], qiC 0 [qgA 70], qiC 0 [qgA 70], qjC 1 70, qjC 1 8, qkC 100 13, qkC 100 14, qkC 100 15, qkC 100 16, qkC 100 17, qjC 1 4]
noncomputable def zt37 (r : TbL) : TbL := qtN 0 0 69 :: qtN 1 25 69 :: qtN 2 0 8 :: qtA 3 :: qtA 4 :: qtA 5 :: qtA 6 :: qtA 7 :: qtA 8 :: qtA 9 :: r
noncomputable def zh144 : AH := [qoC 12 [qvR 1, qvR 2, qvR 3, .inl (false, ((.negSucc 24), [(0, (.ofNat 1)), (1, (.ofNat 1))])), qvR 4, qvR 5, qvK (.ofNat 25), qvR 6, qvR 7, qvS 2, qvR 8, qvS 3, qvR 9, qvR 10, qvR 11, qvR 12, qvS 4, qvS 5, qvS 6, qvR 13, qvS 7, qvS 8, qvS 9, qvR 14], qkC 100 10, qkC 100 11, qkC 103 12, qiC 0 [qgA 70], qiC 0 [qgA 70], qiC 0 [qgA 70], qjC 1 70, qjC 1 8, qkC 100 13, qkC 100 14, qkC 100 15, qkC 100 16, qkC 100 17, qjC 1 4]
noncomputable def zt38 (r : TbL) : TbL := qtN 0 0 69 :: qtN 1 26 69 :: qtN 2 0 8 :: qtA 3 :: qtA 4 :: qtA 5 :: qtA 6 :: qtA 7 :: qtA 8 :: qtA 9 :: r
noncomputable def zh145 : AH := [qoC 12 [qvR 1, qvR 2, qvR 3, .inl (false, ((.negSucc 25), [(0, (.ofNat 1)), (1, (.ofNat 1))])), qvR 4, qvR 5, qvK (.ofNat 26), qvR 6, qvR 7, qvS 2, qvR 8, qvS 3, qvR 9, qvR 10, qvR 11, qvR 12, qvS 4, qvS 5, qvS 6, qvR 13, qvS 7, qvS 8, qvS 9, qvR 14], qkC 100 10, qkC 100 11, qkC 103 12, qiC 0 [qgA 70], qiC 0 [qgA 70], qiC 0 [qgA 70], qjC 1 70, qjC 1 8, qkC 100 13, qkC 100 14, qkC 100 15, qkC 100 16, qkC 100 17, qjC 1 4]
noncomputable def zt39 (r : TbL) : TbL := qtN 0 0 69 :: qtN 1 27 69 :: qtN 2 0 8 :: qtA 3 :: qtA 4 :: qtA 5 :: qtA 6 :: qtA 7 :: qtA 8 :: qtA 9 :: r
noncomputable def zh146 : AH := [qoC 12 [qvR 1, qvR 2, qvR 3, .inl (false, ((.negSucc 26), [(0, (.ofNat 1)), (1, (.ofNat 1))])), qvR 4, qvR 5, qvK (.ofNat 27), qvR 6, qvR 7, qvS 2, qvR 8, qvS 3, qvR 9, qvR 10, qvR 11, qvR 12, qvS 4, qvS 5, qvS 6, qvR 13, qvS 7, qvS 8, qvS 9, qvR 14], qkC 100 10, qkC 100 11, qkC 103 12, qiC 0 [qgA 70], qiC 0 [qgA 70], qiC 0 [qgA 70], qjC 1 70, qjC 1 8, qkC 100 13, qkC 100 14, qkC 100 15, qkC 100 16, qkC 100 17, qjC 1 4]
noncomputable def zt40 (r : TbL) : TbL := qtN 0 0 69 :: qtN 1 28 69 :: qtN 2 0 8 :: qtA 3 :: qtA 4 :: qtA 5 :: qtA 6 :: qtA 7 :: qtA 8 :: qtA 9 :: r
noncomputable def zh147 : AH := [qoC 12 [qvR 1, qvR 2, qvR 3, .inl (false, ((.negSucc 27), [(0, (.ofNat 1)), (1, (.ofNat 1))])), qvR 4, qvR 5, qvK (.ofNat 28), qvR 6, qvR 7, qvS 2, qvR 8, qvS 3, qvR 9, qvR 10, qvR 11, qvR 12, qvS 4, qvS 5, qvS 6, qvR 13, qvS 7, qvS 8, qvS 9, qvR 14], qkC 100 10, qkC 100 11, qkC 103 12, qiC 0 [qgA 70], qiC 0 [qgA 70], qiC 0 [qgA 70], qjC 1 70, qjC 1 8, qkC 100 13, qkC 100 14, qkC 100 15, qkC 100 16, qkC 100 17, qjC 1 4]
noncomputable def zt41 (r : TbL) : TbL := qtN 0 0 69 :: qtN 1 29 69 :: qtN 2 0 8 :: qtA 3 :: qtA 4 :: qtA 5 :: qtA 6 :: qtA 7 :: qtA 8 :: qtA 9 :: r
noncomputable def zh148 : AH := [qoC 12 [qvR 1, qvR 2, qvR 3, .inl (false, ((.negSucc 28), [(0, (.ofNat 1)), (1, (.ofNat 1))])), qvR 4, qvR 5, qvK (.ofNat 29), qvR 6, qvR 7, qvS 2, qvR 8, qvS 3, qvR 9, qvR 10, qvR 11, qvR 12, qvS 4, qvS 5, qvS 6, qvR 13, qvS 7, qvS 8, qvS 9, qvR 14], qkC 100 10, qkC 100 11, qkC 103 12, qiC 0 [qgA 70], qiC 0 [qgA 70], qiC 0 [qgA 70], qjC 1 70, qjC 1 8, qkC 100 13, qkC 100 14, qkC 100 15, qkC 100 16, qkC 100 17, qjC 1 4]
noncomputable def zt42 (r : TbL) : TbL := qtN 0 0 69 :: qtN 1 3 69 :: qtN 2 0 8 :: qtA 3 :: qtA 4 :: qtA 5 :: qtA 6 :: qtA 7 :: qtA 8 :: qtA 9 :: r
noncomputable def zh149 : AH := [qoC 12 [qvR 1, qvR 2, qvR 3, .inl (false, ((.negSucc 2), [(0, (.ofNat 1)), (1, (.ofNat 1))])), qvR 4, qvR 5, qvK (.ofNat 3), qvR 6, qvR 7, qvS 2, qvR 8, qvS 3, qvR 9, qvR 10, qvR 11, qvR 12, qvS 4, qvS 5, qvS 6, qvR 13, qvS 7, qvS 8, qvS 9, qvR 14], qkC 100 10, qkC 100 11, qkC 103 12, qiC 0 [qgA 70], qiC 0 [qgA 70], qiC 0 [qgA 70], qjC 1 70, qjC 1 8, qkC 100 13, qkC 100 14, qkC 100 15, qkC 100 16, qkC 100 17, qjC 1 4]
noncomputable def zt43 (r : TbL) : TbL := qtN 0 0 69 :: qtN 1 30 69 :: qtN 2 0 8 :: qtA 3 :: qtA 4 :: qtA 5 :: qtA 6 :: qtA 7 :: qtA 8 :: qtA 9 :: r
noncomputable def zh150 : AH := [qoC 12 [qvR 1, qvR 2, qvR 3, .inl (false, ((.negSucc 29), [(0, (.ofNat 1)), (1, (.ofNat 1))])), qvR 4, qvR 5, qvK (.ofNat 30), qvR 6, qvR 7, qvS 2, qvR 8, qvS 3, qvR 9, qvR 10, qvR 11, qvR 12, qvS 4, qvS 5, qvS 6, qvR 13, qvS 7, qvS 8, qvS 9, qvR 14], qkC 100 10, qkC 100 11, qkC 103 12, qiC 0 [qgA 70], qiC 0 [qgA 70], qiC 0 [qgA 70], qjC 1 70, qjC 1 8, qkC 100 13, qkC 100 14, qkC 100 15, qkC 100 16, qkC 100 17, qjC 1 4]
noncomputable def zt44 (r : TbL) : TbL := qtN 0 0 69 :: qtN 1 31 69 :: qtN 2 0 8 :: qtA 3 :: qtA 4 :: qtA 5 :: qtA 6 :: qtA 7 :: qtA 8 :: qtA 9 :: r
noncomputable def zh151 : AH := [qoC 12 [qvR 1, qvR 2, qvR 3, .inl (false, ((.negSucc 30), [(0, (.ofNat 1)), (1, (.ofNat 1))])), qvR 4, qvR 5, qvK (.ofNat 31), qvR 6, qvR 7, qvS 2, qvR 8, qvS 3, qvR 9, qvR 10, qvR 11, qvR 12, qvS 4, qvS 5, qvS 6, qvR 13, qvS 7, qvS 8, qvS 9, qvR 14], qkC 100 10, qkC 100 11, qkC 103 12, qiC 0 [qgA 70], qiC 0 [qgA 70], qiC 0 [qgA 70], qjC 1 70, qjC 1 8, qkC 100 13, qkC 100 14, qkC 100 15, qkC 100 16, qkC 100 17, qjC 1 4]
noncomputable def zt45 (r : TbL) : TbL := qtN 0 0 69 :: qtN 1 32 69 :: qtN 2 0 8 :: qtA 3 :: qtA 4 :: qtA 5 :: qtA 6 :: qtA 7 :: qtA 8 :: qtA 9 :: r
noncomputable def zh152 : AH := [qoC 12 [qvR 1, qvR 2, qvR 3, .inl (false, ((.negSucc 31), [(0, (.ofNat 1)), (1, (.ofNat 1))])), qvR 4, qvR 5, qvK (.ofNat 32), qvR 6, qvR 7, qvS 2, qvR 8, qvS 3, qvR 9, qvR 10, qvR 11, qvR 12, qvS 4, qvS 5, qvS 6, qvR 13, qvS 7, qvS 8, qvS 9, qvR 14], qkC 100 10, qkC 100 11, qkC 103 12, qiC 0 [qgA 70], qiC 0 [qgA 70], qiC 0 [qgA 70], qjC 1 70, qjC 1 8, qkC 100 13, qkC 100 14, qkC 100 15, qkC 100 16, qkC 100 17, qjC 1 4]
noncomputable def zt46 (r : TbL) : TbL := qtN 0 0 69 :: qtN 1 33 69 :: qtN 2 0 8 :: qtA 3 :: qtA 4 :: qtA 5 :: qtA 6 :: qtA 7 :: qtA 8 :: qtA 9 :: r
noncomputable def zh153 : AH := [qoC 12 [qvR 1, qvR 2, qvR 3, .inl (false, ((.negSucc 32), [(0, (.ofNat 1)), (1, (.ofNat 1))])), qvR 4, qvR 5, qvK (.ofNat 33), qvR 6, qvR 7, qvS 2, qvR 8, qvS 3, qvR 9, qvR 10, qvR 11, qvR 12, qvS 4, qvS 5, qvS 6, qvR 13, qvS 7, qvS 8, qvS 9, qvR 14], qkC 100 10, qkC 100 11, qkC 103 12, qiC 0 [qgA 70], qiC 0 [qgA 70], qiC 0 [qgA 70], qjC 1 70, qjC 1 8, qkC 100 13, qkC 100 14, qkC 100 15, qkC 100 16, qkC 100 17, qjC 1 4]
noncomputable def zt47 (r : TbL) : TbL := qtN 0 0 69 :: qtN 1 34 69 :: qtN 2 0 8 :: qtA 3 :: qtA 4 :: qtA 5 :: qtA 6 :: qtA 7 :: qtA 8 :: qtA 9 :: r
noncomputable def zh154 : AH := [qoC 12 [qvR 1, qvR 2, qvR 3, .inl (false, ((.negSucc 33), [(0, (.ofNat 1)), (1, (.ofNat 1))])), qvR 4, qvR 5, qvK (.ofNat 34), qvR 6, qvR 7, qvS 2, qvR 8, qvS 3, qvR 9, qvR 10, qvR 11, qvR 12, qvS 4, qvS 5, qvS 6, qvR 13, qvS 7, qvS 8, qvS 9, qvR 14], qkC 100 10, qkC 100 11, qkC 103 12, qiC 0 [qgA 70], qiC 0 [qgA 70], qiC 0 [qgA 70], qjC 1 70, qjC 1 8, qkC 100 13, qkC 100 14, qkC 100 15, qkC 100 16, qkC 100 17, qjC 1 4]
noncomputable def zt48 (r : TbL) : TbL := qtN 0 0 69 :: qtN 1 35 69 :: qtN 2 0 8 :: qtA 3 :: qtA 4 :: qtA 5 :: qtA 6 :: qtA 7 :: qtA 8 :: qtA 9 :: r
noncomputable def zh155 : AH := [qoC 12 [qvR 1, qvR 2, qvR 3, .inl (false, ((.negSucc 34), [(0, (.ofNat 1)), (1, (.ofNat 1))])), qvR 4, qvR 5, qvK (.ofNat 35), qvR 6, qvR 7, qvS 2, qvR 8, qvS 3, qvR 9, qvR 10, qvR 11, qvR 12, qvS 4, qvS 5, qvS 6, qvR 13, qvS 7, qvS 8, qvS 9, qvR 14], qkC 100 10, qkC 100 11, qkC 103 12, qiC 0 [qgA 70], qiC 0 [qgA 70], qiC 0 [qgA 70], qjC 1 70, qjC 1 8, qkC 100 13, qkC 100 14, qkC 100 15, qkC 100 16, qkC 100 17, qjC 1 4]
noncomputable def zt49 (r : TbL) : TbL := qtN 0 0 69 :: qtN 1 36 69 :: qtN 2 0 8 :: qtA 3 :: qtA 4 :: qtA 5 :: qtA 6 :: qtA 7 :: qtA 8 :: qtA 9 :: r
noncomputable def zh156 : AH := [qoC 12 [qvR 1, qvR 2, qvR 3, .inl (false, ((.negSucc 35), [(0, (.ofNat 1)), (1, (.ofNat 1))])), qvR 4, qvR 5, qvK (.ofNat 36), qvR 6, qvR 7, qvS 2, qvR 8, qvS 3, qvR 9, qvR 10, qvR 11, qvR 12, qvS 4, qvS 5, qvS 6, qvR 13, qvS 7, qvS 8, qvS 9, qvR 14], qkC 100 10, qkC 100 11, qkC 103 12, qiC 0 [qgA 70], qiC 0 [qgA 70], qiC 0 [qgA 70], qjC 1 70, qjC 1 8, qkC 100 13, qkC 100 14, qkC 100 15, qkC 100 16, qkC 100 17, qjC 1 4]
noncomputable def zt50 (r : TbL) : TbL := qtN 0 0 69 :: qtN 1 37 69 :: qtN 2 0 8 :: qtA 3 :: qtA 4 :: qtA 5 :: qtA 6 :: qtA 7 :: qtA 8 :: qtA 9 :: r
noncomputable def zh157 : AH := [qoC 12 [qvR 1, qvR 2, qvR 3, .inl (false, ((.negSucc 36), [(0, (.ofNat 1)), (1, (.ofNat 1))])), qvR 4, qvR 5, qvK (.ofNat 37), qvR 6, qvR 7, qvS 2, qvR 8, qvS 3, qvR 9, qvR 10, qvR 11, qvR 12, qvS 4, qvS 5, qvS 6, qvR 13, qvS 7, qvS 8, qvS 9, qvR 14], qkC 100 10, qkC 100 11, qkC 103 12, qiC 0 [qgA 70], qiC 0 [qgA 70], qiC 0 [qgA 70], qjC 1 70, qjC 1 8, qkC 100 13, qkC 100 14, qkC 100 15, qkC 100 16, qkC 100 17, qjC 1 4]
noncomputable def zt51 (r : TbL) : TbL := qtN 0 0 69 :: qtN 1 38 69 :: qtN 2 0 8 :: qtA 3 :: qtA 4 :: qtA 5 :: qtA 6 :: qtA 7 :: qtA 8 :: qtA 9 :: r
noncomputable def zh158 : AH := [qoC 12 [qvR 1, qvR 2, qvR 3, .inl (false, ((.negSucc 37), [(0, (.ofNat 1)), (1, (.ofNat 1))])), qvR 4, qvR 5, qvK (.ofNat 38), qvR 6, qvR 7, qvS 2, qvR 8, qvS 3, qvR 9, qvR 10, qvR 11, qvR 12, qvS 4, qvS 5, qvS 6, qvR 13, qvS 7, qvS 8, qvS 9, qvR 14], qkC 100 10, qkC 100 11, qkC 103 12, qiC 0 [qgA 70], qiC 0 [qgA 70], qiC 0 [qgA 70], qjC 1 70, qjC 1 8, qkC 100 13, qkC 100 14, qkC 100 15, qkC 100 16, qkC 100 17, qjC 1 4]
noncomputable def zt52 (r : TbL) : TbL := qtN 0 0 69 :: qtN 1 39 69 :: qtN 2 0 8 :: qtA 3 :: qtA 4 :: qtA 5 :: qtA 6 :: qtA 7 :: qtA 8 :: qtA 9 :: r
noncomputable def zh159 : AH := [qoC 12 [qvR 1, qvR 2, qvR 3, .inl (false, ((.negSucc 38), [(0, (.ofNat 1)), (1, (.ofNat 1))])), qvR 4, qvR 5, qvK (.ofNat 39), qvR 6, qvR 7, qvS 2, qvR 8, qvS 3, qvR 9, qvR 10, qvR 11, qvR 12, qvS 4, qvS 5, qvS 6, qvR 13, qvS 7, qvS 8, qvS 9, qvR 14], qkC 100 10, qkC 100 11, qkC 103 12, qiC 0 [qgA 70], qiC 0 [qgA 70], qiC 0 [qgA 70], qjC 1 70, qjC 1 8, qkC 100 13, qkC 100 14, qkC 100 15, qkC 100 16, qkC 100 17, qjC 1 4]
noncomputable def zt53 (r : TbL) : TbL := qtN 0 0 69 :: qtN 1 4 69 :: qtN 2 0 8 :: qtA 3 :: qtA 4 :: qtA 5 :: qtA 6 :: qtA 7 :: qtA 8 :: qtA 9 :: r
noncomputable def zh160 : AH := [qoC 12 [qvR 1, qvR 2, qvR 3, .inl (false, ((.negSucc 3), [(0, (.ofNat 1)), (1, (.ofNat 1))])), qvR 4, qvR 5, qvK (.ofNat 4), qvR 6, qvR 7, qvS 2, qvR 8, qvS 3, qvR 9, qvR 10, qvR 11, qvR 12, qvS 4, qvS 5, qvS 6, qvR 13, qvS 7, qvS 8, qvS 9, qvR 14], qkC 100 10, qkC 100 11, qkC 103 12, qiC 0 [qgA 70], qiC 0 [qgA 70], qiC 0 [qgA 70], qjC 1 70, qjC 1 8, qkC 100 13, qkC 100 14, qkC 100 15, qkC 100 16, qkC 100 17, qjC 1 4]
noncomputable def zt54 (r : TbL) : TbL := qtN 0 0 69 :: qtN 1 40 69 :: qtN 2 0 8 :: qtA 3 :: qtA 4 :: qtA 5 :: qtA 6 :: qtA 7 :: qtA 8 :: qtA 9 :: r
noncomputable def zh161 : AH := [qoC 12 [qvR 1, qvR 2, qvR 3, .inl (false, ((.negSucc 39), [(0, (.ofNat 1)), (1, (.ofNat 1))])), qvR 4, qvR 5, qvK (.ofNat 40), qvR 6, qvR 7, qvS 2, qvR 8, qvS 3, qvR 9, qvR 10, qvR 11, qvR 12, qvS 4, qvS 5, qvS 6, qvR 13, qvS 7, qvS 8, qvS 9, qvR 14], qkC 100 10, qkC 100 11, qkC 103 12, qiC 0 [qgA 70], qiC 0 [qgA 70], qiC 0 [qgA 70], qjC 1 70, qjC 1 8, qkC 100 13, qkC 100 14, qkC 100 15, qkC 100 16, qkC 100 17, qjC 1 4]
noncomputable def zt55 (r : TbL) : TbL := qtN 0 0 69 :: qtN 1 41 69 :: qtN 2 0 8 :: qtA 3 :: qtA 4 :: qtA 5 :: qtA 6 :: qtA 7 :: qtA 8 :: qtA 9 :: r
noncomputable def zh162 : AH := [qoC 12 [qvR 1, qvR 2, qvR 3, .inl (false, ((.negSucc 40), [(0, (.ofNat 1)), (1, (.ofNat 1))])), qvR 4, qvR 5, qvK (.ofNat 41), qvR 6, qvR 7, qvS 2, qvR 8, qvS 3, qvR 9, qvR 10, qvR 11, qvR 12, qvS 4, qvS 5, qvS 6, qvR 13, qvS 7, qvS 8, qvS 9, qvR 14], qkC 100 10, qkC 100 11, qkC 103 12, qiC 0 [qgA 70], qiC 0 [qgA 70], qiC 0 [qgA 70], qjC 1 70, qjC 1 8, qkC 100 13, qkC 100 14, qkC 100 15, qkC 100 16, qkC 100 17, qjC 1 4]
noncomputable def zt56 (r : TbL) : TbL := qtN 0 0 69 :: qtN 1 42 69 :: qtN 2 0 8 :: qtA 3 :: qtA 4 :: qtA 5 :: qtA 6 :: qtA 7 :: qtA 8 :: qtA 9 :: r
noncomputable def zh163 : AH := [qoC 12 [qvR 1, qvR 2, qvR 3, .inl (false, ((.negSucc 41), [(0, (.ofNat 1)), (1, (.ofNat 1))])), qvR 4, qvR 5, qvK (.ofNat 42), qvR 6, qvR 7, qvS 2, qvR 8, qvS 3, qvR 9, qvR 10, qvR 11, qvR 12, qvS 4, qvS 5, qvS 6, qvR 13, qvS 7, qvS 8, qvS 9, qvR 14], qkC 100 10, qkC 100 11, qkC 103 12, qiC 0 [qgA 70], qiC 0 [qgA 70], qiC 0 [qgA 70], qjC 1 70, qjC 1 8, qkC 100 13, qkC 100 14, qkC 100 15, qkC 100 16, qkC 100 17, qjC 1 4]
noncomputable def zt57 (r : TbL) : TbL := qtN 0 0 69 :: qtN 1 43 69 :: qtN 2 0 8 :: qtA 3 :: qtA 4 :: qtA 5 :: qtA 6 :: qtA 7 :: qtA 8 :: qtA 9 :: r
noncomputable def zh164 : AH := [qoC 12 [qvR 1, qvR 2, qvR 3, .inl (false, ((.negSucc 42), [(0, (.ofNat 1)), (1, (.ofNat 1))])), qvR 4, qvR 5, qvK (.ofNat 43), qvR 6, qvR 7, qvS 2, qvR 8, qvS 3, qvR 9, qvR 10, qvR 11, qvR 12, qvS 4, qvS 5, qvS 6, qvR 13, qvS 7, qvS 8, qvS 9, qvR 14], qkC 100 10, qkC 100 11, qkC 103 12, qiC 0 [qgA 70], qiC 0 [qgA 70], qiC 0 [qgA 70], qjC 1 70, qjC 1 8, qkC 100 13, qkC 100 14, qkC 100 15, qkC 100 16, qkC 100 17, qjC 1 4]
noncomputable def zt58 (r : TbL) : TbL := qtN 0 0 69 :: qtN 1 44 69 :: qtN 2 0 8 :: qtA 3 :: qtA 4 :: qtA 5 :: qtA 6 :: qtA 7 :: qtA 8 :: qtA 9 :: r
noncomputable def zh165 : AH := [qoC 12 [qvR 1, qvR 2, qvR 3, .inl (false, ((.negSucc 43), [(0, (.ofNat 1)), (1, (.ofNat 1))])), qvR 4, qvR 5, qvK (.ofNat 44), qvR 6, qvR 7, qvS 2, qvR 8, qvS 3, qvR 9, qvR 10, qvR 11, qvR 12, qvS 4, qvS 5, qvS 6, qvR 13, qvS 7, qvS 8, qvS 9, qvR 14], qkC 100 10, qkC 100 11, qkC 103 12, qiC 0 [qgA 70], qiC 0 [qgA 70], qiC 0 [qgA 70], qjC 1 70, qjC 1 8, qkC 100 13, qkC 100 14, qkC 100 15, qkC 100 16, qkC 100 17, qjC 1 4]
noncomputable def zt59 (r : TbL) : TbL := qtN 0 0 69 :: qtN 1 45 69 :: qtN 2 0 8 :: qtA 3 :: qtA 4 :: qtA 5 :: qtA 6 :: qtA 7 :: qtA 8 :: qtA 9 :: r
noncomputable def zh166 : AH := [qoC 12 [qvR 1, qvR 2, qvR 3, .inl (false, ((.negSucc 44), [(0, (.ofNat 1)), (1, (.ofNat 1))])), qvR 4, qvR 5, qvK (.ofNat 45), qvR 6, qvR 7, qvS 2, qvR 8, qvS 3, qvR 9, qvR 10, qvR 11, qvR 12, qvS 4, qvS 5, qvS 6, qvR 13, qvS 7, qvS 8, qvS 9, qvR 14], qkC 100 10, qkC 100 11, qkC 103 12, qiC 0 [qgA 70], qiC 0 [qgA 70], qiC 0 [qgA 70], qjC 1 70, qjC 1 8, qkC 100 13, qkC 100 14, qkC 100 15, qkC 100 16, qkC 100 17, qjC 1 4]
noncomputable def zt60 (r : TbL) : TbL := qtN 0 0 69 :: qtN 1 46 69 :: qtN 2 0 8 :: qtA 3 :: qtA 4 :: qtA 5 :: qtA 6 :: qtA 7 :: qtA 8 :: qtA 9 :: r
noncomputable def zh167 : AH := [qoC 12 [qvR 1, qvR 2, qvR 3, .inl (false, ((.negSucc 45), [(0, (.ofNat 1)), (1, (.ofNat 1))])), qvR 4, qvR 5, qvK (.ofNat 46), qvR 6, qvR 7, qvS 2, qvR 8, qvS 3, qvR 9, qvR 10, qvR 11, qvR 12, qvS 4, qvS 5, qvS 6, qvR 13, qvS 7, qvS 8, qvS 9, qvR 14], qkC 100 10, qkC 100 11, qkC 103 12, qiC 0 [qgA 70], qiC 0 [qgA 70], qiC 0 [qgA 70], qjC 1 70, qjC 1 8, qkC 100 13, qkC 100 14, qkC 100 15, qkC 100 16, qkC 100 17, qjC 1 4]
noncomputable def zt61 (r : TbL) : TbL := qtN 0 0 69 :: qtN 1 47 69 :: qtN 2 0 8 :: qtA 3 :: qtA 4 :: qtA 5 :: qtA 6 :: qtA 7 :: qtA 8 :: qtA 9 :: r
noncomputable def zh168 : AH := [qoC 12 [qvR 1, qvR 2, qvR 3, .inl (false, ((.negSucc 46), [(0, (.ofNat 1)), (1, (.ofNat 1))])), qvR 4, qvR 5, qvK (.ofNat 47), qvR 6, qvR 7, qvS 2, qvR 8, qvS 3, qvR 9, qvR 10, qvR 11, qvR 12, qvS 4, qvS 5, qvS 6, qvR 13, qvS 7, qvS 8, qvS 9, qvR 14], qkC 100 10, qkC 100 11, qkC 103 12, qiC 0 [qgA 70], qiC 0 [qgA 70], qiC 0 [qgA 70], qjC 1 70, qjC 1 8, qkC 100 13, qkC 100 14, qkC 100 15, qkC 100 16, qkC 100 17, qjC 1 4]
noncomputable def zt62 (r : TbL) : TbL := qtN 0 0 69 :: qtN 1 48 69 :: qtN 2 0 8 :: qtA 3 :: qtA 4 :: qtA 5 :: qtA 6 :: qtA 7 :: qtA 8 :: qtA 9 :: r
noncomputable def zh169 : AH := [qoC 12 [qvR 1, qvR 2, qvR 3, .inl (false, ((.negSucc 47), [(0, (.ofNat 1)), (1, (.ofNat 1))])), qvR 4, qvR 5, qvK (.ofNat 48), qvR 6, qvR 7, qvS 2, qvR 8, qvS 3, qvR 9, qvR 10, qvR 11, qvR 12, qvS 4, qvS 5, qvS 6, qvR 13, qvS 7, qvS 8, qvS 9, qvR 14], qkC 100 10, qkC 100 11, qkC 103 12, qiC 0 [qgA 70], qiC 0 [qgA 70], qiC 0 [qgA 70], qjC 1 70, qjC 1 8, qkC 100 13, qkC 100 14, qkC 100 15, qkC 100 16, qkC 100 17, qjC 1 4]
noncomputable def zt63 (r : TbL) : TbL := qtN 0 0 69 :: qtN 1 49 69 :: qtN 2 0 8 :: qtA 3 :: qtA 4 :: qtA 5 :: qtA 6 :: qtA 7 :: qtA 8 :: qtA 9 :: r
noncomputable def zh170 : AH := [qoC 12 [qvR 1, qvR 2, qvR 3, .inl (false, ((.negSucc 48), [(0, (.ofNat 1)), (1, (.ofNat 1))])), qvR 4, qvR 5, qvK (.ofNat 49), qvR 6, qvR 7, qvS 2, qvR 8, qvS 3, qvR 9, qvR 10, qvR 11, qvR 12, qvS 4, qvS 5, qvS 6, qvR 13, qvS 7, qvS 8, qvS 9, qvR 14], qkC 100 10, qkC 100 11, qkC 103 12, qiC 0 [qgA 70], qiC 0 [qgA 70], qiC 0 [qgA 70], qjC 1 70, qjC 1 8, qkC 100 13, qkC 100 14, qkC 100 15, qkC 100 16, qkC 100 17, qjC 1 4]
noncomputable def zt64 (r : TbL) : TbL := qtN 0 0 69 :: qtN 1 5 69 :: qtN 2 0 8 :: qtA 3 :: qtA 4 :: qtA 5 :: qtA 6 :: qtA 7 :: qtA 8 :: qtA 9 :: r
noncomputable def zh171 : AH := [qoC 12 [qvR 1, qvR 2, qvR 3, .inl (false, ((.negSucc 4), [(0, (.ofNat 1)), (1, (.ofNat 1))])), qvR 4, qvR 5, qvK (.ofNat 5), qvR 6, qvR 7, qvS 2, qvR 8, qvS 3, qvR 9, qvR 10, qvR 11, qvR 12, qvS 4, qvS 5, qvS 6, qvR 13, qvS 7, qvS 8, qvS 9, qvR 14], qkC 100 10, qkC 100 11, qkC 103 12, qiC 0 [qgA 70], qiC 0 [qgA 70], qiC 0 [qgA 70], qjC 1 70, qjC 1 8, qkC 100 13, qkC 100 14, qkC 100 15, qkC 100 16, qkC 100 17, qjC 1 4]
noncomputable def zt65 (r : TbL) : TbL := qtN 0 0 69 :: qtN 1 50 69 :: qtN 2 0 8 :: qtA 3 :: qtA 4 :: qtA 5 :: qtA 6 :: qtA 7 :: qtA 8 :: qtA 9 :: r
noncomputable def zh172 : AH := [qoC 12 [qvR 1, qvR 2, qvR 3, .inl (false, ((.negSucc 49), [(0, (.ofNat 1)), (1, (.ofNat 1))])), qvR 4, qvR 5, qvK (.ofNat 50), qvR 6, qvR 7, qvS 2, qvR 8, qvS 3, qvR 9, qvR 10, qvR 11, qvR 12, qvS 4, qvS 5, qvS 6, qvR 13, qvS 7, qvS 8, qvS 9, qvR 14], qkC 100 10, qkC 100 11, qkC 103 12, qiC 0 [qgA 70], qiC 0 [qgA 70], qiC 0 [qgA 70], qjC 1 70, qjC 1 8, qkC 100 13, qkC 100 14, qkC 100 15, qkC 100 16, qkC 100 17, qjC 1 4]
noncomputable def zt66 (r : TbL) : TbL := qtN 0 0 69 :: qtN 1 51 69 :: qtN 2 0 8 :: qtA 3 :: qtA 4 :: qtA 5 :: qtA 6 :: qtA 7 :: qtA 8 :: qtA 9 :: r
noncomputable def zh173 : AH := [qoC 12 [qvR 1, qvR 2, qvR 3, .inl (false, ((.negSucc 50), [(0, (.ofNat 1)), (1, (.ofNat 1))])), qvR 4, qvR 5, qvK (.ofNat 51), qvR 6, qvR 7, qvS 2, qvR 8, qvS 3, qvR 9, qvR 10, qvR 11, qvR 12, qvS 4, qvS 5, qvS 6, qvR 13, qvS 7, qvS 8, qvS 9, qvR 14], qkC 100 10, qkC 100 11, qkC 103 12, qiC 0 [qgA 70], qiC 0 [qgA 70], qiC 0 [qgA 70], qjC 1 70, qjC 1 8, qkC 100 13, qkC 100 14, qkC 100 15, qkC 100 16, qkC 100 17, qjC 1 4]
noncomputable def zt67 (r : TbL) : TbL := qtN 0 0 69 :: qtN 1 52 69 :: qtN 2 0 8 :: qtA 3 :: qtA 4 :: qtA 5 :: qtA 6 :: qtA 7 :: qtA 8 :: qtA 9 :: r
noncomputable def zh174 : AH := [qoC 12 [qvR 1, qvR 2, qvR 3, .inl (false, ((.negSucc 51), [(0, (.ofNat 1)), (1, (.ofNat 1))])), qvR 4, qvR 5, qvK (.ofNat 52), qvR 6, qvR 7, qvS 2, qvR 8, qvS 3, qvR 9, qvR 10, qvR 11, qvR 12, qvS 4, qvS 5, qvS 6, qvR 13, qvS 7, qvS 8, qvS 9, qvR 14], qkC 100 10, qkC 100 11, qkC 103 12, qiC 0 [qgA 70], qiC 0 [qgA 70], qiC 0 [qgA 70], qjC 1 70, qjC 1 8, qkC 100 13, qkC 100 14, qkC 100 15, qkC 100 16, qkC 100 17, qjC 1 4]
noncomputable def zt68 (r : TbL) : TbL := qtN 0 0 69 :: qtN 1 53 69 :: qtN 2 0 8 :: qtA 3 :: qtA 4 :: qtA 5 :: qtA 6 :: qtA 7 :: qtA 8 :: qtA 9 :: r
noncomputable def zh175 : AH := [qoC 12 [qvR 1, qvR 2, qvR 3, .inl (false, ((.negSucc 52), [(0, (.ofNat 1)), (1, (.ofNat 1))])), qvR 4, qvR 5, qvK (.ofNat 53), qvR 6, qvR 7, qvS 2, qvR 8, qvS 3, qvR 9, qvR 10, qvR 11, qvR 12, qvS 4, qvS 5, qvS 6, qvR 13, qvS 7, qvS 8, qvS 9, qvR 14], qkC 100 10, qkC 100 11, qkC 103 12, qiC 0 [qgA 70], qiC 0 [qgA 70], qiC 0 [qgA 70], qjC 1 70, qjC 1 8, qkC 100 13, qkC 100 14, qkC 100 15, qkC 100 16, qkC 100 17, qjC 1 4]
noncomputable def zt69 (r : TbL) : TbL := qtN 0 0 69 :: qtN 1 54 69 :: qtN 2 0 8 :: qtA 3 :: qtA 4 :: qtA 5 :: qtA 6 :: qtA 7 :: qtA 8 :: qtA 9 :: r
noncomputable def zh176 : AH := [qoC 12 [qvR 1, qvR 2, qvR 3, .inl (false, ((.negSucc 53), [(0, (.ofNat 1)), (1, (.ofNat 1))])), qvR 4, qvR 5, qvK (.ofNat 54), qvR 6, qvR 7, qvS 2, qvR 8, qvS 3, qvR 9, qvR 10, qvR 11, qvR 12, qvS 4, qvS 5, qvS 6, qvR 13, qvS 7, qvS 8, qvS 9, qvR 14], qkC 100 10, qkC 100 11, qkC 103 12, qiC 0 [qgA 70], qiC 0 [qgA 70], qiC 0 [qgA 70], qjC 1 70, qjC 1 8, qkC 100 13, qkC 100 14, qkC 100 15, qkC 100 16, qkC 100 17, qjC 1 4]
noncomputable def zt70 (r : TbL) : TbL := qtN 0 0 69 :: qtN 1 55 69 :: qtN 2 0 8 :: qtA 3 :: qtA 4 :: qtA 5 :: qtA 6 :: qtA 7 :: qtA 8 :: qtA 9 :: r
noncomputable def zh177 : AH := [qoC 12 [qvR 1, qvR 2, qvR 3, .inl (false, ((.negSucc 54), [(0, (.ofNat 1)), (1, (.ofNat 1))])), qvR 4, qvR 5, qvK (.ofNat 55), qvR 6, qvR 7, qvS 2, qvR 8, qvS 3, qvR 9, qvR 10, qvR 11, qvR 12, qvS 4, qvS 5, qvS 6, qvR 13, qvS 7, qvS 8, qvS 9, qvR 14], qkC 100 10, qkC 100 11, qkC 103 12, qiC 0 [qgA 70], qiC 0 [qgA 70], qiC 0 [qgA 70], qjC 1 70, qjC 1 8, qkC 100 13, qkC 100 14, qkC 100 15, qkC 100 16, qkC 100 17, qjC 1 4]
noncomputable def zt71 (r : TbL) : TbL := qtN 0 0 69 :: qtN 1 56 69 :: qtN 2 0 8 :: qtA 3 :: qtA 4 :: qtA 5 :: qtA 6 :: qtA 7 :: qtA 8 :: qtA 9 :: r
noncomputable def zh178 : AH := [qoC 12 [qvR 1, qvR 2, qvR 3, .inl (false, ((.negSucc 55), [(0, (.ofNat 1)), (1, (.ofNat 1))])), qvR 4, qvR 5, qvK (.ofNat 56), qvR 6, qvR 7, qvS 2, qvR 8, qvS 3, qvR 9, qvR 10, qvR 11, qvR 12, qvS 4, qvS 5, qvS 6, qvR 13, qvS 7, qvS 8, qvS 9, qvR 14], qkC 100 10, qkC 100 11, qkC 103 12, qiC 0 [qgA 70], qiC 0 [qgA 70], qiC 0 [qgA 70], qjC 1 70, qjC 1 8, qkC 100 13, qkC 100 14, qkC 100 15, qkC 100 16, qkC 100 17, qjC 1 4]
noncomputable def zt72 (r : TbL) : TbL := qtN 0 0 69 :: qtN 1 57 69 :: qtN 2 0 8 :: qtA 3 :: qtA 4 :: qtA 5 :: qtA 6 :: qtA 7 :: qtA 8 :: qtA 9 :: r
noncomputable def zh179 : AH := [qoC 12 [qvR 1, qvR 2, qvR 3, .inl (false, ((.negSucc 56), [(0, (.ofNat 1)), (1, (.ofNat 1))])), qvR 4, qvR 5, qvK (.ofNat 57), qvR 6, qvR 7, qvS 2, qvR 8, qvS 3, qvR 9, qvR 10, qvR 11, qvR 12, qvS 4, qvS 5, qvS 6, qvR 13, qvS 7, qvS 8, qvS 9, qvR 14], qkC 100 10, qkC 100 11, qkC 103 12, qiC 0 [qgA 70], qiC 0 [qgA 70], qiC 0 [qgA 70], qjC 1 70, qjC 1 8, qkC 100 13, qkC 100 14, qkC 100 15, qkC 100 16, qkC 100 17, qjC 1 4]
noncomputable def zt73 (r : TbL) : TbL := qtN 0 0 69 :: qtN 1 58 69 :: qtN 2 0 8 :: qtA 3 :: qtA 4 :: qtA 5 :: qtA 6 :: qtA 7 :: qtA 8 :: qtA 9 :: r
noncomputable def zh180 : AH := [qoC 12 [qvR 1, qvR 2, qvR 3, .inl (false, ((.negSucc 57), [(0, (.ofNat 1)), (1, (.ofNat 1))])), qvR 4, qvR 5, qvK (.ofNat 58), qvR 6, qvR 7, qvS 2, qvR 8, qvS 3, qvR 9, qvR 10, qvR 11, qvR 12, qvS 4, qvS 5, qvS 6, qvR 13, qvS 7, qvS 8, qvS 9, qvR 14], qkC 100 10, qkC 100 11, qkC 103 12, qiC 0 [qgA 70], qiC 0 [qgA 70], qiC 0 [qgA 70], qjC 1 70, qjC 1 8, qkC 100 13, qkC 100 14, qkC 100 15, qkC 100 16, qkC 100 17, qjC 1 4]
noncomputable def zt74 (r : TbL) : TbL := qtN 0 0 69 :: qtN 1 59 69 :: qtN 2 0 8 :: qtA 3 :: qtA 4 :: qtA 5 :: qtA 6 :: qtA 7 :: qtA 8 :: qtA 9 :: r
noncomputable def zh181 : AH := [qoC 12 [qvR 1, qvR 2, qvR 3, .inl (false, ((.negSucc 58), [(0, (.ofNat 1)), (1, (.ofNat 1))])), qvR 4, qvR 5, qvK (.ofNat 59), qvR 6, qvR 7, qvS 2, qvR 8, qvS 3, qvR 9, qvR 10, qvR 11, qvR 12, qvS 4, qvS 5, qvS 6, qvR 13, qvS 7, qvS 8, qvS 9, qvR 14], qkC 100 10, qkC 100 11, qkC 103 12, qiC 0 [qgA 70], qiC 0 [qgA 70], qiC 0 [qgA 70], qjC 1 70, qjC 1 8, qkC 100 13, qkC 100 14, qkC 100 15, qkC 100 16, qkC 100 17, qjC 1 4]
noncomputable def zt75 (r : TbL) : TbL := qtN 0 0 69 :: qtN 1 6 69 :: qtN 2 0 8 :: qtA 3 :: qtA 4 :: qtA 5 :: qtA 6 :: qtA 7 :: qtA 8 :: qtA 9 :: r
noncomputable def zh182 : AH := [qoC 12 [qvR 1, qvR 2, qvR 3, .inl (false, ((.negSucc 5), [(0, (.ofNat 1)), (1, (.ofNat 1))])), qvR 4, qvR 5, qvK (.ofNat 6), qvR 6, qvR 7, qvS 2, qvR 8, qvS 3, qvR 9, qvR 10, qvR 11, qvR 12, qvS 4, qvS 5, qvS 6, qvR 13, qvS 7, qvS 8, qvS 9, qvR 14], qkC 100 10, qkC 100 11, qkC 103 12, qiC 0 [qgA 70], qiC 0 [qgA 70], qiC 0 [qgA 70], qjC 1 70, qjC 1 8, qkC 100 13, qkC 100 14, qkC 100 15, qkC 100 16, qkC 100 17, qjC 1 4]
noncomputable def zt76 (r : TbL) : TbL := qtN 0 0 69 :: qtN 1 60 69 :: qtN 2 0 8 :: qtA 3 :: qtA 4 :: qtA 5 :: qtA 6 :: qtA 7 :: qtA 8 :: qtA 9 :: r
noncomputable def zh183 : AH := [qoC 12 [qvR 1, qvR 2, qvR 3, .inl (false, ((.negSucc 59), [(0, (.ofNat 1)), (1, (.ofNat 1))])), qvR 4, qvR 5, qvK (.ofNat 60), qvR 6, qvR 7, qvS 2, qvR 8, qvS 3, qvR 9, qvR 10, qvR 11, qvR 12, qvS 4, qvS 5, qvS 6, qvR 13, qvS 7, qvS 8, qvS 9, qvR 14], qkC 100 10, qkC 100 11, qkC 103 12, qiC 0 [qgA 70], qiC 0 [qgA 70], qiC 0 [qgA 70], qjC 1 70, qjC 1 8, qkC 100 13, qkC 100 14, qkC 100 15, qkC 100 16, qkC 100 17, qjC 1 4]
noncomputable def zt77 (r : TbL) : TbL := qtN 0 0 69 :: qtN 1 61 69 :: qtN 2 0 8 :: qtA 3 :: qtA 4 :: qtA 5 :: qtA 6 :: qtA 7 :: qtA 8 :: qtA 9 :: r
noncomputable def zh184 : AH := [qoC 12 [qvR 1, qvR 2, qvR 3, .inl (false, ((.negSucc 60), [(0, (.ofNat 1)), (1, (.ofNat 1))])), qvR 4, qvR 5, qvK (.ofNat 61), qvR 6, qvR 7, qvS 2, qvR 8, qvS 3, qvR 9, qvR 10, qvR 11, qvR 12, qvS 4, qvS 5, qvS 6, qvR 13, qvS 7, qvS 8, qvS 9, qvR 14], qkC 100 10, qkC 100 11, qkC 103 12, qiC 0 [qgA 70], qiC 0 [qgA 70], qiC 0 [qgA 70], qjC 1 70, qjC 1 8, qkC 100 13, qkC 100 14, qkC 100 15, qkC 100 16, qkC 100 17, qjC 1 4]
noncomputable def zt78 (r : TbL) : TbL := qtN 0 0 69 :: qtN 1 62 69 :: qtN 2 0 8 :: qtA 3 :: qtA 4 :: qtA 5 :: qtA 6 :: qtA 7 :: qtA 8 :: qtA 9 :: r
noncomputable def zh185 : AH := [qoC 12 [qvR 1, qvR 2, qvR 3, .inl (false, ((.negSucc 61), [(0, (.ofNat 1)), (1, (.ofNat 1))])), qvR 4, qvR 5, qvK (.ofNat 62), qvR 6, qvR 7, qvS 2, qvR 8, qvS 3, qvR 9, qvR 10, qvR 11, qvR 12, qvS 4, qvS 5, qvS 6, qvR 13, qvS 7, qvS 8, qvS 9, qvR 14], qkC 100 10, qkC 100 11, qkC 103 12, qiC 0 [qgA 70], qiC 0 [qgA 70], qiC 0 [qgA 70], qjC 1 70, qjC 1 8, qkC 100 13, qkC 100 14, qkC 100 15, qkC 100 16, qkC 100 17, qjC 1 4]
noncomputable def zt79 (r : TbL) : TbL := qtN 0 0 69 :: qtN 1 63 69 :: qtN 2 0 8 :: qtA 3 :: qtA 4 :: qtA 5 :: qtA 6 :: qtA 7 :: qtA 8 :: qtA 9 :: r
noncomputable def zh186 : AH := [qoC 12 [qvR 1, qvR 2, qvR 3, .inl (false, ((.negSucc 62), [(0, (.ofNat 1)), (1, (.ofNat 1))])), qvR 4, qvR 5, qvK (.ofNat 63), qvR 6, qvR 7, qvS 2, qvR 8, qvS 3, qvR 9, qvR 10, qvR 11, qvR 12, qvS 4, qvS 5, qvS 6, qvR 13, qvS 7, qvS 8, qvS 9, qvR 14], qkC 100 10, qkC 100 11, qkC 103 12, qiC 0 [qgA 70], qiC 0 [qgA 70], qiC 0 [qgA 70], qjC 1 70, qjC 1 8, qkC 100 13, qkC 100 14, qkC 100 15, qkC 100 16, qkC 100 17, qjC 1 4]
noncomputable def zt80 (r : TbL) : TbL := qtN 0 0 69 :: qtN 1 64 69 :: qtN 2 0 8 :: qtA 3 :: qtA 4 :: qtA 5 :: qtA 6 :: qtA 7 :: qtA 8 :: qtA 9 :: r
noncomputable def zh187 : AH := [qoC 12 [qvR 1, qvR 2, qvR 3, .inl (false, ((.negSucc 63), [(0, (.ofNat 1)), (1, (.ofNat 1))])), qvR 4, qvR 5, qvK (.ofNat 64), qvR 6, qvR 7, qvS 2, qvR 8, qvS 3, qvR 9, qvR 10, qvR 11, qvR 12, qvS 4, qvS 5, qvS 6, qvR 13, qvS 7, qvS 8, qvS 9, qvR 14], qkC 100 10, qkC 100 11, qkC 103 12, qiC 0 [qgA 70], qiC 0 [qgA 70], qiC 0 [qgA 70], qjC 1 70, qjC 1 8, qkC 100 13, qkC 100 14, qkC 100 15, qkC 100 16, qkC 100 17, qjC 1 4]
noncomputable def zt81 (r : TbL) : TbL := qtN 0 0 69 :: qtN 1 65 69 :: qtN 2 0 8 :: qtA 3 :: qtA 4 :: qtA 5 :: qtA 6 :: qtA 7 :: qtA 8 :: qtA 9 :: r
noncomputable def zh188 : AH := [qoC 12 [qvR 1, qvR 2, qvR 3, .inl (false, ((.negSucc 64), [(0, (.ofNat 1)), (1, (.ofNat 1))])), qvR 4, qvR 5, qvK (.ofNat 65), qvR 6, qvR 7, qvS 2, qvR 8, qvS 3, qvR 9, qvR 10, qvR 11, qvR 12, qvS 4, qvS 5, qvS 6, qvR 13, qvS 7, qvS 8, qvS 9, qvR 14], qkC 100 10, qkC 100 11, qkC 103 12, qiC 0 [qgA 70], qiC 0 [qgA 70], qiC 0 [qgA 70], qjC 1 70, qjC 1 8, qkC 100 13, qkC 100 14, qkC 100 15, qkC 100 16, qkC 100 17, qjC 1 4]
noncomputable def zt82 (r : TbL) : TbL := qtN 0 0 69 :: qtN 1 66 69 :: qtN 2 0 8 :: qtA 3 :: qtA 4 :: qtA 5 :: qtA 6 :: qtA 7 :: qtA 8 :: qtA 9 :: r
noncomputable def zh189 : AH := [qoC 12 [qvR 1, qvR 2, qvR 3, .inl (false, ((.negSucc 65), [(0, (.ofNat 1)), (1, (.ofNat 1))])), qvR 4, qvR 5, qvK (.ofNat 66), qvR 6, qvR 7, qvS 2, qvR 8, qvS 3, qvR 9, qvR 10, qvR 11, qvR 12, qvS 4, qvS 5, qvS 6, qvR 13, qvS 7, qvS 8, qvS 9, qvR 14], qkC 100 10, qkC 100 11, qkC 103 12, qiC 0 [qgA 70], qiC 0 [qgA 70], qiC 0 [qgA 70], qjC 1 70, qjC 1 8, qkC 100 13, qkC 100 14, qkC 100 15, qkC 100 16, qkC 100 17, qjC 1 4]
noncomputable def zt83 (r : TbL) : TbL := qtN 0 0 69 :: qtN 1 67 69 :: qtN 2 0 8 :: qtA 3 :: qtA 4 :: qtA 5 :: qtA 6 :: qtA 7 :: qtA 8 :: qtA 9 :: r
noncomputable def zh190 : AH := [qoC 12 [qvR 1, qvR 2, qvR 3, .inl (false, ((.negSucc 66), [(0, (.ofNat 1)), (1, (.ofNat 1))])), qvR 4, qvR 5, qvK (.ofNat 67), qvR 6, qvR 7, qvS 2, qvR 8, qvS 3, qvR 9, qvR 10, qvR 11, qvR 12, qvS 4, qvS 5, qvS 6, qvR 13, qvS 7, qvS 8, qvS 9, qvR 14], qkC 100 10, qkC 100 11, qkC 103 12, qiC 0 [qgA 70], qiC 0 [qgA 70], qiC 0 [qgA 70], qjC 1 70, qjC 1 8, qkC 100 13, qkC 100 14, qkC 100 15, qkC 100 16, qkC 100 17, qjC 1 4]
noncomputable def zt84 (r : TbL) : TbL := qtN 0 0 69 :: qtN 1 68 69 :: qtN 2 0 8 :: qtA 3 :: qtA 4 :: qtA 5 :: qtA 6 :: qtA 7 :: qtA 8 :: qtA 9 :: r
noncomputable def zh191 : AH := [qoC 12 [qvR 1, qvR 2, qvR 3, .inl (false, ((.negSucc 67), [(0, (.ofNat 1)), (1, (.ofNat 1))])), qvR 4, qvR 5, qvK (.ofNat 68), qvR 6, qvR 7, qvS 2, qvR 8, qvS 3, qvR 9, qvR 10, qvR 11, qvR 12, qvS 4, qvS 5, qvS 6, qvR 13, qvS 7, qvS 8, qvS 9, qvR 14], qkC 100 10, qkC 100 11, qkC 103 12, qiC 0 [qgA 70], qiC 0 [qgA 70], qiC 0 [qgA 70], qjC 1 70, qjC 1 8, qkC 100 13, qkC 100 14, qkC 100 15, qkC 100 16, qkC 100 17, qjC 1 4]
noncomputable def zt85 (r : TbL) : TbL := qtN 0 0 69 :: qtN 1 69 69 :: qtN 2 0 8 :: qtA 3 :: qtA 4 :: qtA 5 :: qtA 6 :: qtA 7 :: qtA 8 :: qtA 9 :: r
noncomputable def zt86 (r : TbL) : TbL := qtN 0 0 69 :: qtN 1 7 69 :: qtN 2 0 8 :: qtA 3 :: qtA 4 :: qtA 5 :: qtA 6 :: qtA 7 :: qtA 8 :: qtA 9 :: r
noncomputable def zh192 : AH := [qoC 12 [qvR 1, qvR 2, qvR 3, .inl (false, ((.negSucc 6), [(0, (.ofNat 1)), (1, (.ofNat 1))])), qvR 4, qvR 5, qvK (.ofNat 7), qvR 6, qvR 7, qvS 2, qvR 8, qvS 3, qvR 9, qvR 10, qvR 11, qvR 12, qvS 4, qvS 5, qvS 6, qvR 13, qvS 7, qvS 8, qvS 9, qvR 14], qkC 100 10, qkC 100 11, qkC 103 12, qiC 0 [qgA 70], qiC 0 [qgA 70], qiC 0 [qgA 70], qjC 1 70, qjC 1 8, qkC 100 13, qkC 100 14, qkC 100 15, qkC 100 16, qkC 100 17, qjC 1 4]
noncomputable def zt87 (r : TbL) : TbL := qtN 0 0 69 :: qtN 1 8 69 :: qtN 2 0 8 :: qtA 3 :: qtA 4 :: qtA 5 :: qtA 6 :: qtA 7 :: qtA 8 :: qtA 9 :: r
noncomputable def zh193 : AH := [qoC 12 [qvR 1, qvR 2, qvR 3, .inl (false, ((.negSucc 7), [(0, (.ofNat 1)), (1, (.ofNat 1))])), qvR 4, qvR 5, qvK (.ofNat 8), qvR 6, qvR 7, qvS 2, qvR 8, qvS 3, qvR 9, qvR 10, qvR 11, qvR 12, qvS 4, qvS 5, qvS 6, qvR 13, qvS 7, qvS 8, qvS 9, qvR 14], qkC 100 10, qkC 100 11, qkC 103 12, qiC 0 [qgA 70], qiC 0 [qgA 70], qiC 0 [qgA 70], qjC 1 70, qjC 1 8, qkC 100 13, qkC 100 14, qkC 100 15, qkC 100 16, qkC 100 17, qjC 1 4]
noncomputable def zt88 (r : TbL) : TbL := qtN 0 0 69 :: qtN 1 9 69 :: qtN 2 0 8 :: qtA 3 :: qtA 4 :: qtA 5 :: qtA 6 :: qtA 7 :: qtA 8 :: qtA 9 :: r
noncomputable def zh194 : AH := [qoC 12 [qvR 1, qvR 2, qvR 3, .inl (false, ((.negSucc 8), [(0, (.ofNat 1)), (1, (.ofNat 1))])), qvR 4, qvR 5, qvK (.ofNat 9), qvR 6, qvR 7, qvS 2, qvR 8, qvS 3, qvR 9, qvR 10, qvR 11, qvR 12, qvS 4, qvS 5, qvS 6, qvR 13, qvS 7, qvS 8, qvS 9, qvR 14], qkC 100 10, qkC 100 11, qkC 103 12, qiC 0 [qgA 70], qiC 0 [qgA 70], qiC 0 [qgA 70], qjC 1 70, qjC 1 8, qkC 100 13, qkC 100 14, qkC 100 15, qkC 100 16, qkC 100 17, qjC 1 4]
noncomputable def c162_0 : Ct := (162, 2, (18, (zt5 []), [((.negSucc 68), [(0, (.ofNat 1)), (1, (.ofNat 1))])], [qvR 0, qvK (.ofNat 1)], zh125, [(2, [1], []), (1, [1], [])]),
  [((18, [], [((.negSucc 69), [(0, (.ofNat 1)), (1, (.ofNat 1))])], [], zh126, [(2, [1], []), (1, [1], [])]), 0, 0),
   ((19, [qtN 1 1 69, qtN 18 1 69], [((.negSucc 69), [(0, (.ofNat 1)), (1, (.ofNat 1))]), ((.negSucc 70), [(0, (.ofNat 1)), (1, (.ofNat 1))]), ((.ofNat 0), [(0, (.negSucc 0)), (1, (.negSucc 0)), (18, (.ofNat 1))]), ((.negSucc 68), [(0, (.ofNat 1)), (1, (.ofNat 1)), (18, (.negSucc 0))]), ((.negSucc 69), [(0, (.ofNat 1)), (1, (.ofNat 1)), (18, (.negSucc 0))]), ((.ofNat 0), [(1, (.negSucc 0)), (18, (.ofNat 1))]), ((.negSucc 0), [(1, (.negSucc 0)), (18, (.ofNat 1))])], [], [qoC 12 [qvR 1, qvR 2, qvR 3, .inl (false, ((.ofNat 0), [(0, (.ofNat 1)), (1, (.ofNat 1)), (18, (.negSucc 0))])), qvR 4, qvR 5, qvS 18, qvR 6, qvR 7, qvS 2, qvR 8, qvS 3, qvR 9, qvR 10, qvR 11, qvR 12, qvS 4, qvS 5, qvS 6, qvR 13, qvS 7, qvS 8, qvS 9, qvR 14], qkC 100 10, qkC 100 11, qkC 103 12, qiC 0 [qgA 70], qiC 0 [qgA 70], qiC 0 [qgA 70], qjC 1 70, qjC 1 8, qkC 100 13, qkC 100 14, qkC 100 15, qkC 100 16, qkC 100 17, qjC 1 4], [(2, [1], []), (1, [1], [])]), 0, 0)])
noncomputable def c162_0_e : List Ct := [c163_0, c164_0]
noncomputable def c162_0_p0 : PE := (1, [0, 1], (18, (zt5 []), [((.negSucc 68), [(0, (.ofNat 1)), (1, (.ofNat 1))]), ((.negSucc 69), [(0, (.ofNat 1)), (1, (.ofNat 1))])], [qvR 0, qvR 0, qvK (.ofNat 1)], zh126, [(2, [1], []), (1, [1], [])]), symsL 18 0, some ((.ofNat 139), [(0, (.negSucc 0)), (1, (.negSucc 0))]), 0, 0)
noncomputable def c162_0_p1 : PE := (1, [0, 1], (18, (zt20 []), [((.negSucc 68), [(0, (.ofNat 1)), (1, (.ofNat 1))]), ((.negSucc 69), [(0, (.ofNat 1)), (1, (.ofNat 1))]), ((.negSucc 70), [(0, (.ofNat 1)), (1, (.ofNat 1))])], [qvR 0, qvR 0, qvK (.ofNat 1)], zh127, [(2, [1], []), (1, [1], [])]), symsL 18 0, some ((.ofNat 140), [(0, (.negSucc 0)), (1, (.negSucc 0))]), 0, 0)
noncomputable def c162_0_p2 : PE := (1, [0, 1], (18, (zt21 []), [((.negSucc 68), [(0, (.ofNat 1)), (1, (.ofNat 1))]), ((.negSucc 69), [(0, (.ofNat 1)), (1, (.ofNat 1))]), ((.negSucc 78), [(0, (.ofNat 1)), (1, (.ofNat 1))]), ((.negSucc 79), [(0, (.ofNat 1)), (1, (.ofNat 1))])], [qvR 0, qvR 0, qvK (.ofNat 1)], zh128, [(2, [1], []), (1, [1], [])]), symsL 18 0, some ((.ofNat 149), [(0, (.negSucc 0)), (1, (.negSucc 0))]), 0, 0)
noncomputable def c162_0_p3 : PE := (1, [0, 1], (18, (zt22 []), [((.negSucc 68), [(0, (.ofNat 1)), (1, (.ofNat 1))]), ((.negSucc 69), [(0, (.ofNat 1)), (1, (.ofNat 1))]), ((.negSucc 79), [(0, (.ofNat 1)), (1, (.ofNat 1))]), ((.negSucc 80), [(0, (.ofNat 1)), (1, (.ofNat 1))])], [qvR 0, qvR 0, qvK (.ofNat 1)], zh129, [(2, [1], []), (1, [1], [])]), symsL 18 0, some ((.ofNat 150), [(0, (.negSucc 0)), (1, (.negSucc 0))]), 0, 0)
noncomputable def c162_0_p4 : PE := (1, [0, 1], (18, (zt23 []), [((.negSucc 68), [(0, (.ofNat 1)), (1, (.ofNat 1))]), ((.negSucc 69), [(0, (.ofNat 1)), (1, (.ofNat 1))]), ((.negSucc 80), [(0, (.ofNat 1)), (1, (.ofNat 1))]), ((.negSucc 81), [(0, (.ofNat 1)), (1, (.ofNat 1))])], [qvR 0, qvR 0, qvK (.ofNat 1)], zh130, [(2, [1], []), (1, [1], [])]), symsL 18 0, some ((.ofNat 151), [(0, (.negSucc 0)), (1, (.negSucc 0))]), 0, 0)
noncomputable def c162_0_p5 : PE := (1, [0, 1], (18, (zt24 []), [((.negSucc 68), [(0, (.ofNat 1)), (1, (.ofNat 1))]), ((.negSucc 69), [(0, (.ofNat 1)), (1, (.ofNat 1))]), ((.negSucc 81), [(0, (.ofNat 1)), (1, (.ofNat 1))]), ((.negSucc 82), [(0, (.ofNat 1)), (1, (.ofNat 1))])], [qvR 0, qvR 0, qvK (.ofNat 1)], zh131, [(2, [1], []), (1, [1], [])]), symsL 18 0, some ((.ofNat 152), [(0, (.negSucc 0)), (1, (.negSucc 0))]), 0, 0)
noncomputable def c162_0_p6 : PE := (1, [0, 1], (18, (zt25 []), [((.negSucc 68), [(0, (.ofNat 1)), (1, (.ofNat 1))]), ((.negSucc 69), [(0, (.ofNat 1)), (1, (.ofNat 1))]), ((.negSucc 82), [(0, (.ofNat 1)), (1, (.ofNat 1))]), ((.negSucc 83), [(0, (.ofNat 1)), (1, (.ofNat 1))])], [qvR 0, qvR 0, qvK (.ofNat 1)], zh132, [(2, [1], []), (1, [1], [])]), symsL 18 0, some ((.ofNat 153), [(0, (.negSucc 0)), (1, (.negSucc 0))]), 0, 0)
noncomputable def c162_0_p7 : PE := (1, [0, 1], (18, (zt26 []), [((.negSucc 68), [(0, (.ofNat 1)), (1, (.ofNat 1))]), ((.negSucc 69), [(0, (.ofNat 1)), (1, (.ofNat 1))]), ((.negSucc 83), [(0, (.ofNat 1)), (1, (.ofNat 1))]), ((.negSucc 84), [(0, (.ofNat 1)), (1, (.ofNat 1))])], [qvR 0, qvR 0, qvK (.ofNat 1)], zh133, [(2, [1], []), (1, [1], [])]), symsL 18 0, some ((.ofNat 154), [(0, (.negSucc 0)), (1, (.negSucc 0))]), 0, 0)
noncomputable def c162_0_p8 : PE := (1, [0, 1], (18, (zt27 []), [((.negSucc 68), [(0, (.ofNat 1)), (1, (.ofNat 1))]), ((.negSucc 69), [(0, (.ofNat 1)), (1, (.ofNat 1))]), ((.negSucc 84), [(0, (.ofNat 1)), (1, (.ofNat 1))]), ((.negSucc 85), [(0, (.ofNat 1)), (1, (.ofNat 1))])], [qvR 0, qvR 0, qvK (.ofNat 1)], zh134, [(2, [1], []), (1, [1], [])]), symsL 18 0, some ((.ofNat 155), [(0, (.negSucc 0)), (1, (.negSucc 0))]), 0, 0)
noncomputable def c162_0_p9 : PE := (1, [0, 1], (18, (zt28 []), [((.negSucc 68), [(0, (.ofNat 1)), (1, (.ofNat 1))]), ((.negSucc 69), [(0, (.ofNat 1)), (1, (.ofNat 1))]), ((.negSucc 85), [(0, (.ofNat 1)), (1, (.ofNat 1))]), ((.negSucc 86), [(0, (.ofNat 1)), (1, (.ofNat 1))])], [qvR 0, qvR 0, qvK (.ofNat 1)], zh135, [(2, [1], []), (1, [1], [])]), symsL 18 0, some ((.ofNat 156), [(0, (.negSucc 0)), (1, (.negSucc 0))]), 0, 0)
noncomputable def c162_0_p10 : PE := (1, [0, 1], (18, (zt29 []), [((.negSucc 68), [(0, (.ofNat 1)), (1, (.ofNat 1))]), ((.negSucc 69), [(0, (.ofNat 1)), (1, (.ofNat 1))]), ((.negSucc 86), [(0, (.ofNat 1)), (1, (.ofNat 1))]), ((.negSucc 87), [(0, (.ofNat 1)), (1, (.ofNat 1))])], [qvR 0, qvR 0, qvK (.ofNat 1)], zh136, [(2, [1], []), (1, [1], [])]), symsL 18 0, some ((.ofNat 157), [(0, (.negSucc 0)), (1, (.negSucc 0))]), 0, 0)
noncomputable def c162_0_p11 : PE := (1, [0, 1], (18, (zt30 []), [((.negSucc 68), [(0, (.ofNat 1)), (1, (.ofNat 1))]), ((.negSucc 69), [(0, (.ofNat 1)), (1, (.ofNat 1))]), ((.negSucc 87), [(0, (.ofNat 1)), (1, (.ofNat 1))]), ((.negSucc 88), [(0, (.ofNat 1)), (1, (.ofNat 1))])], [qvR 0, qvR 0, qvK (.ofNat 1)], zh137, [(2, [1], []), (1, [1], [])]), symsL 18 0, some ((.ofNat 158), [(0, (.negSucc 0)), (1, (.negSucc 0))]), 0, 0)
noncomputable def c162_0_p12 : PE := (1, [0, 1], (18, (zt31 []), [((.negSucc 68), [(0, (.ofNat 1)), (1, (.ofNat 1))]), ((.negSucc 69), [(0, (.ofNat 1)), (1, (.ofNat 1))]), ((.negSucc 70), [(0, (.ofNat 1)), (1, (.ofNat 1))]), ((.negSucc 71), [(0, (.ofNat 1)), (1, (.ofNat 1))])], [qvR 0, qvR 0, qvK (.ofNat 1)], zh138, [(2, [1], []), (1, [1], [])]), symsL 18 0, some ((.ofNat 141), [(0, (.negSucc 0)), (1, (.negSucc 0))]), 0, 0)
noncomputable def c162_0_p13 : PE := (1, [0, 1], (18, (zt32 []), [((.negSucc 68), [(0, (.ofNat 1)), (1, (.ofNat 1))]), ((.negSucc 69), [(0, (.ofNat 1)), (1, (.ofNat 1))]), ((.negSucc 88), [(0, (.ofNat 1)), (1, (.ofNat 1))]), ((.negSucc 89), [(0, (.ofNat 1)), (1, (.ofNat 1))])], [qvR 0, qvR 0, qvK (.ofNat 1)], zh139, [(2, [1], []), (1, [1], [])]), symsL 18 0, some ((.ofNat 159), [(0, (.negSucc 0)), (1, (.negSucc 0))]), 0, 0)
noncomputable def c162_0_p14 : PE := (1, [0, 1], (18, (zt33 []), [((.negSucc 68), [(0, (.ofNat 1)), (1, (.ofNat 1))]), ((.negSucc 69), [(0, (.ofNat 1)), (1, (.ofNat 1))]), ((.negSucc 89), [(0, (.ofNat 1)), (1, (.ofNat 1))]), ((.negSucc 90), [(0, (.ofNat 1)), (1, (.ofNat 1))])], [qvR 0, qvR 0, qvK (.ofNat 1)], zh140, [(2, [1], []), (1, [1], [])]), symsL 18 0, some ((.ofNat 160), [(0, (.negSucc 0)), (1, (.negSucc 0))]), 0, 0)
noncomputable def c162_0_p15 : PE := (1, [0, 1], (18, (zt34 []), [((.negSucc 68), [(0, (.ofNat 1)), (1, (.ofNat 1))]), ((.negSucc 69), [(0, (.ofNat 1)), (1, (.ofNat 1))]), ((.negSucc 90), [(0, (.ofNat 1)), (1, (.ofNat 1))]), ((.negSucc 91), [(0, (.ofNat 1)), (1, (.ofNat 1))])], [qvR 0, qvR 0, qvK (.ofNat 1)], zh141, [(2, [1], []), (1, [1], [])]), symsL 18 0, some ((.ofNat 161), [(0, (.negSucc 0)), (1, (.negSucc 0))]), 0, 0)
noncomputable def c162_0_p16 : PE := (1, [0, 1], (18, (zt35 []), [((.negSucc 68), [(0, (.ofNat 1)), (1, (.ofNat 1))]), ((.negSucc 69), [(0, (.ofNat 1)), (1, (.ofNat 1))]), ((.negSucc 91), [(0, (.ofNat 1)), (1, (.ofNat 1))]), ((.negSucc 92), [(0, (.ofNat 1)), (1, (.ofNat 1))])], [qvR 0, qvR 0, qvK (.ofNat 1)], zh142, [(2, [1], []), (1, [1], [])]), symsL 18 0, some ((.ofNat 162), [(0, (.negSucc 0)), (1, (.negSucc 0))]), 0, 0)
noncomputable def c162_0_p17 : PE := (1, [0, 1], (18, (zt36 []), [((.negSucc 68), [(0, (.ofNat 1)), (1, (.ofNat 1))]), ((.negSucc 69), [(0, (.ofNat 1)), (1, (.ofNat 1))]), ((.negSucc 92), [(0, (.ofNat 1)), (1, (.ofNat 1))]), ((.negSucc 93), [(0, (.ofNat 1)), (1, (.ofNat 1))])], [qvR 0, qvR 0, qvK (.ofNat 1)], zh143, [(2, [1], []), (1, [1], [])]), symsL 18 0, some ((.ofNat 163), [(0, (.negSucc 0)), (1, (.negSucc 0))]), 0, 0)
noncomputable def c162_0_p18 : PE := (1, [0, 1], (18, (zt37 []), [((.negSucc 68), [(0, (.ofNat 1)), (1, (.ofNat 1))]), ((.negSucc 69), [(0, (.ofNat 1)), (1, (.ofNat 1))]), ((.negSucc 93), [(0, (.ofNat 1)), (1, (.ofNat 1))]), ((.negSucc 94), [(0, (.ofNat 1)), (1, (.ofNat 1))])], [qvR 0, qvR 0, qvK (.ofNat 1)], zh144, [(2, [1], []), (1, [1], [])]), symsL 18 0, some ((.ofNat 164), [(0, (.negSucc 0)), (1, (.negSucc 0))]), 0, 0)
noncomputable def c162_0_p19 : PE := (1, [0, 1], (18, (zt38 []), [((.negSucc 68), [(0, (.ofNat 1)), (1, (.ofNat 1))]), ((.negSucc 69), [(0, (.ofNat 1)), (1, (.ofNat 1))]), ((.negSucc 94), [(0, (.ofNat 1)), (1, (.ofNat 1))]), ((.negSucc 95), [(0, (.ofNat 1)), (1, (.ofNat 1))])], [qvR 0, qvR 0, qvK (.ofNat 1)], zh145, [(2, [1], []), (1, [1], [])]), symsL 18 0, some ((.ofNat 165), [(0, (.negSucc 0)), (1, (.negSucc 0))]), 0, 0)
noncomputable def c162_0_p20 : PE := (1, [0, 1], (18, (zt39 []), [((.negSucc 68), [(0, (.ofNat 1)), (1, (.ofNat 1))]), ((.negSucc 69), [(0, (.ofNat 1)), (1, (.ofNat 1))]), ((.negSucc 95), [(0, (.ofNat 1)), (1, (.ofNat 1))]), ((.negSucc 96), [(0, (.ofNat 1)), (1, (.ofNat 1))])], [qvR 0, qvR 0, qvK (.ofNat 1)], zh146, [(2, [1], []), (1, [1], [])]), symsL 18 0, some ((.ofNat 166), [(0, (.negSucc 0)), (1, (.negSucc 0))]), 0, 0)
noncomputable def c162_0_p21 : PE := (1, [0, 1], (18, (zt40 []), [((.negSucc 68), [(0, (.ofNat 1)), (1, (.ofNat 1))]), ((.negSucc 69), [(0, (.ofNat 1)), (1, (.ofNat 1))]), ((.negSucc 96), [(0, (.ofNat 1)), (1, (.ofNat 1))]), ((.negSucc 97), [(0, (.ofNat 1)), (1, (.ofNat 1))])], [qvR 0, qvR 0, qvK (.ofNat 1)], zh147, [(2, [1], []), (1, [1], [])]), symsL 18 0, some ((.ofNat 167), [(0, (.negSucc 0)), (1, (.negSucc 0))]), 0, 0)
noncomputable def c162_0_p22 : PE := (1, [0, 1], (18, (zt41 []), [((.negSucc 68), [(0, (.ofNat 1)), (1, (.ofNat 1))]), ((.negSucc 69), [(0, (.ofNat 1)), (1, (.ofNat 1))]), ((.negSucc 97), [(0, (.ofNat 1)), (1, (.ofNat 1))]), ((.negSucc 98), [(0, (.ofNat 1)), (1, (.ofNat 1))])], [qvR 0, qvR 0, qvK (.ofNat 1)], zh148, [(2, [1], []), (1, [1], [])]), symsL 18 0, some ((.ofNat 168), [(0, (.negSucc 0)), (1, (.negSucc 0))]), 0, 0)
noncomputable def c162_0_p23 : PE := (1, [0, 1], (18, (zt42 []), [((.negSucc 68), [(0, (.ofNat 1)), (1, (.ofNat 1))]), ((.negSucc 69), [(0, (.ofNat 1)), (1, (.ofNat 1))]), ((.negSucc 71), [(0, (.ofNat 1)), (1, (.ofNat 1))]), ((.negSucc 72), [(0, (.ofNat 1)), (1, (.ofNat 1))])], [qvR 0, qvR 0, qvK (.ofNat 1)], zh149, [(2, [1], []), (1, [1], [])]), symsL 18 0, some ((.ofNat 142), [(0, (.negSucc 0)), (1, (.negSucc 0))]), 0, 0)
noncomputable def c162_0_p24 : PE := (1, [0, 1], (18, (zt43 []), [((.negSucc 68), [(0, (.ofNat 1)), (1, (.ofNat 1))]), ((.negSucc 69), [(0, (.ofNat 1)), (1, (.ofNat 1))]), ((.negSucc 98), [(0, (.ofNat 1)), (1, (.ofNat 1))]), ((.negSucc 99), [(0, (.ofNat 1)), (1, (.ofNat 1))])], [qvR 0, qvR 0, qvK (.ofNat 1)], zh150, [(2, [1], []), (1, [1], [])]), symsL 18 0, some ((.ofNat 169), [(0, (.negSucc 0)), (1, (.negSucc 0))]), 0, 0)
noncomputable def c162_0_p25 : PE := (1, [0, 1], (18, (zt44 []), [((.negSucc 68), [(0, (.ofNat 1)), (1, (.ofNat 1))]), ((.negSucc 69), [(0, (.ofNat 1)), (1, (.ofNat 1))]), ((.negSucc 99), [(0, (.ofNat 1)), (1, (.ofNat 1))]), ((.negSucc 100), [(0, (.ofNat 1)), (1, (.ofNat 1))])], [qvR 0, qvR 0, qvK (.ofNat 1)], zh151, [(2, [1], []), (1, [1], [])]), symsL 18 0, some ((.ofNat 170), [(0, (.negSucc 0)), (1, (.negSucc 0))]), 0, 0)
noncomputable def c162_0_p26 : PE := (1, [0, 1], (18, (zt45 []), [((.negSucc 68), [(0, (.ofNat 1)), (1, (.ofNat 1))]), ((.negSucc 69), [(0, (.ofNat 1)), (1, (.ofNat 1))]), ((.negSucc 100), [(0, (.ofNat 1)), (1, (.ofNat 1))]), ((.negSucc 101), [(0, (.ofNat 1)), (1, (.ofNat 1))])], [qvR 0, qvR 0, qvK (.ofNat 1)], zh152, [(2, [1], []), (1, [1], [])]), symsL 18 0, some ((.ofNat 171), [(0, (.negSucc 0)), (1, (.negSucc 0))]), 0, 0)
noncomputable def c162_0_p27 : PE := (1, [0, 1], (18, (zt46 []), [((.negSucc 68), [(0, (.ofNat 1)), (1, (.ofNat 1))]), ((.negSucc 69), [(0, (.ofNat 1)), (1, (.ofNat 1))]), ((.negSucc 101), [(0, (.ofNat 1)), (1, (.ofNat 1))]), ((.negSucc 102), [(0, (.ofNat 1)), (1, (.ofNat 1))])], [qvR 0, qvR 0, qvK (.ofNat 1)], zh153, [(2, [1], []), (1, [1], [])]), symsL 18 0, some ((.ofNat 172), [(0, (.negSucc 0)), (1, (.negSucc 0))]), 0, 0)
noncomputable def c162_0_p28 : PE := (1, [0, 1], (18, (zt47 []), [((.negSucc 68), [(0, (.ofNat 1)), (1, (.ofNat 1))]), ((.negSucc 69), [(0, (.ofNat 1)), (1, (.ofNat 1))]), ((.negSucc 102), [(0, (.ofNat 1)), (1, (.ofNat 1))]), ((.negSucc 103), [(0, (.ofNat 1)), (1, (.ofNat 1))])], [qvR 0, qvR 0, qvK (.ofNat 1)], zh154, [(2, [1], []), (1, [1], [])]), symsL 18 0, some ((.ofNat 173), [(0, (.negSucc 0)), (1, (.negSucc 0))]), 0, 0)
noncomputable def c162_0_p29 : PE := (1, [0, 1], (18, (zt48 []), [((.negSucc 68), [(0, (.ofNat 1)), (1, (.ofNat 1))]), ((.negSucc 69), [(0, (.ofNat 1)), (1, (.ofNat 1))]), ((.negSucc 103), [(0, (.ofNat 1)), (1, (.ofNat 1))]), ((.negSucc 104), [(0, (.ofNat 1)), (1, (.ofNat 1))])], [qvR 0, qvR 0, qvK (.ofNat 1)], zh155, [(2, [1], []), (1, [1], [])]), symsL 18 0, some ((.ofNat 174), [(0, (.negSucc 0)), (1, (.negSucc 0))]), 0, 0)
noncomputable def c162_0_p30 : PE := (1, [0, 1], (18, (zt49 []), [((.negSucc 68), [(0, (.ofNat 1)), (1, (.ofNat 1))]), ((.negSucc 69), [(0, (.ofNat 1)), (1, (.ofNat 1))]), ((.negSucc 104), [(0, (.ofNat 1)), (1, (.ofNat 1))]), ((.negSucc 105), [(0, (.ofNat 1)), (1, (.ofNat 1))])], [qvR 0, qvR 0, qvK (.ofNat 1)], zh156, [(2, [1], []), (1, [1], [])]), symsL 18 0, some ((.ofNat 175), [(0, (.negSucc 0)), (1, (.negSucc 0))]), 0, 0)
noncomputable def c162_0_p31 : PE := (1, [0, 1], (18, (zt50 []), [((.negSucc 68), [(0, (.ofNat 1)), (1, (.ofNat 1))]), ((.negSucc 69), [(0, (.ofNat 1)), (1, (.ofNat 1))]), ((.negSucc 105), [(0, (.ofNat 1)), (1, (.ofNat 1))]), ((.negSucc 106), [(0, (.ofNat 1)), (1, (.ofNat 1))])], [qvR 0, qvR 0, qvK (.ofNat 1)], zh157, [(2, [1], []), (1, [1], [])]), symsL 18 0, some ((.ofNat 176), [(0, (.negSucc 0)), (1, (.negSucc 0))]), 0, 0)
noncomputable def c162_0_p32 : PE := (1, [0, 1], (18, (zt51 []), [((.negSucc 68), [(0, (.ofNat 1)), (1, (.ofNat 1))]), ((.negSucc 69), [(0, (.ofNat 1)), (1, (.ofNat 1))]), ((.negSucc 106), [(0, (.ofNat 1)), (1, (.ofNat 1))]), ((.negSucc 107), [(0, (.ofNat 1)), (1, (.ofNat 1))])], [qvR 0, qvR 0, qvK (.ofNat 1)], zh158, [(2, [1], []), (1, [1], [])]), symsL 18 0, some ((.ofNat 177), [(0, (.negSucc 0)), (1, (.negSucc 0))]), 0, 0)
noncomputable def c162_0_p33 : PE := (1, [0, 1], (18, (zt52 []), [((.negSucc 68), [(0, (.ofNat 1)), (1, (.ofNat 1))]), ((.negSucc 69), [(0, (.ofNat 1)), (1, (.ofNat 1))]), ((.negSucc 107), [(0, (.ofNat 1)), (1, (.ofNat 1))]), ((.negSucc 108), [(0, (.ofNat 1)), (1, (.ofNat 1))])], [qvR 0, qvR 0, qvK (.ofNat 1)], zh159, [(2, [1], []), (1, [1], [])]), symsL 18 0, some ((.ofNat 178), [(0, (.negSucc 0)), (1, (.negSucc 0))]), 0, 0)
noncomputable def c162_0_p34 : PE := (1, [0, 1], (18, (zt53 []), [((.negSucc 68), [(0, (.ofNat 1)), (1, (.ofNat 1))]), ((.negSucc 69), [(0, (.ofNat 1)), (1, (.ofNat 1))]), ((.negSucc 72), [(0, (.ofNat 1)), (1, (.ofNat 1))]), ((.negSucc 73), [(0, (.ofNat 1)), (1, (.ofNat 1))])], [qvR 0, qvR 0, qvK (.ofNat 1)], zh160, [(2, [1], []), (1, [1], [])]), symsL 18 0, some ((.ofNat 143), [(0, (.negSucc 0)), (1, (.negSucc 0))]), 0, 0)
noncomputable def c162_0_p35 : PE := (1, [0, 1], (18, (zt54 []), [((.negSucc 68), [(0, (.ofNat 1)), (1, (.ofNat 1))]), ((.negSucc 69), [(0, (.ofNat 1)), (1, (.ofNat 1))]), ((.negSucc 108), [(0, (.ofNat 1)), (1, (.ofNat 1))]), ((.negSucc 109), [(0, (.ofNat 1)), (1, (.ofNat 1))])], [qvR 0, qvR 0, qvK (.ofNat 1)], zh161, [(2, [1], []), (1, [1], [])]), symsL 18 0, some ((.ofNat 179), [(0, (.negSucc 0)), (1, (.negSucc 0))]), 0, 0)
noncomputable def c162_0_p36 : PE := (1, [0, 1], (18, (zt55 []), [((.negSucc 68), [(0, (.ofNat 1)), (1, (.ofNat 1))]), ((.negSucc 69), [(0, (.ofNat 1)), (1, (.ofNat 1))]), ((.negSucc 109), [(0, (.ofNat 1)), (1, (.ofNat 1))]), ((.negSucc 110), [(0, (.ofNat 1)), (1, (.ofNat 1))])], [qvR 0, qvR 0, qvK (.ofNat 1)], zh162, [(2, [1], []), (1, [1], [])]), symsL 18 0, some ((.ofNat 180), [(0, (.negSucc 0)), (1, (.negSucc 0))]), 0, 0)
noncomputable def c162_0_p37 : PE := (1, [0, 1], (18, (zt56 []), [((.negSucc 68), [(0, (.ofNat 1)), (1, (.ofNat 1))]), ((.negSucc 69), [(0, (.ofNat 1)), (1, (.ofNat 1))]), ((.negSucc 110), [(0, (.ofNat 1)), (1, (.ofNat 1))]), ((.negSucc 111), [(0, (.ofNat 1)), (1, (.ofNat 1))])], [qvR 0, qvR 0, qvK (.ofNat 1)], zh163, [(2, [1], []), (1, [1], [])]), symsL 18 0, some ((.ofNat 181), [(0, (.negSucc 0)), (1, (.negSucc 0))]), 0, 0)
noncomputable def c162_0_p38 : PE := (1, [0, 1], (18, (zt57 []), [((.negSucc 68), [(0, (.ofNat 1)), (1, (.ofNat 1))]), ((.negSucc 69), [(0, (.ofNat 1)), (1, (.ofNat 1))]), ((.negSucc 111), [(0, (.ofNat 1)), (1, (.ofNat 1))]), ((.negSucc 112), [(0, (.ofNat 1)), (1, (.ofNat 1))])], [qvR 0, qvR 0, qvK (.ofNat 1)], zh164, [(2, [1], []), (1, [1], [])]), symsL 18 0, some ((.ofNat 182), [(0, (.negSucc 0)), (1, (.negSucc 0))]), 0, 0)
noncomputable def c162_0_p39 : PE := (1, [0, 1], (18, (zt58 []), [((.negSucc 68), [(0, (.ofNat 1)), (1, (.ofNat 1))]), ((.negSucc 69), [(0, (.ofNat 1)), (1, (.ofNat 1))]), ((.negSucc 112), [(0, (.ofNat 1)), (1, (.ofNat 1))]), ((.negSucc 113), [(0, (.ofNat 1)), (1, (.ofNat 1))])], [qvR 0, qvR 0, qvK (.ofNat 1)], zh165, [(2, [1], []), (1, [1], [])]), symsL 18 0, some ((.ofNat 183), [(0, (.negSucc 0)), (1, (.negSucc 0))]), 0, 0)
noncomputable def c162_0_p40 : PE := (1, [0, 1], (18, (zt59 []), [((.negSucc 68), [(0, (.ofNat 1)), (1, (.ofNat 1))]), ((.negSucc 69), [(0, (.ofNat 1)), (1, (.ofNat 1))]), ((.negSucc 113), [(0, (.ofNat 1)), (1, (.ofNat 1))]), ((.negSucc 114), [(0, (.ofNat 1)), (1, (.ofNat 1))])], [qvR 0, qvR 0, qvK (.ofNat 1)], zh166, [(2, [1], []), (1, [1], [])]), symsL 18 0, some ((.ofNat 184), [(0, (.negSucc 0)), (1, (.negSucc 0))]), 0, 0)
noncomputable def c162_0_p41 : PE := (1, [0, 1], (18, (zt60 []), [((.negSucc 68), [(0, (.ofNat 1)), (1, (.ofNat 1))]), ((.negSucc 69), [(0, (.ofNat 1)), (1, (.ofNat 1))]), ((.negSucc 114), [(0, (.ofNat 1)), (1, (.ofNat 1))]), ((.negSucc 115), [(0, (.ofNat 1)), (1, (.ofNat 1))])], [qvR 0, qvR 0, qvK (.ofNat 1)], zh167, [(2, [1], []), (1, [1], [])]), symsL 18 0, some ((.ofNat 185), [(0, (.negSucc 0)), (1, (.negSucc 0))]), 0, 0)
noncomputable def c162_0_p42 : PE := (1, [0, 1], (18, (zt61 []), [((.negSucc 68), [(0, (.ofNat 1)), (1, (.ofNat 1))]), ((.negSucc 69), [(0, (.ofNat 1)), (1, (.ofNat 1))]), ((.negSucc 115), [(0, (.ofNat 1)), (1, (.ofNat 1))]), ((.negSucc 116), [(0, (.ofNat 1)), (1, (.ofNat 1))])], [qvR 0, qvR 0, qvK (.ofNat 1)], zh168, [(2, [1], []), (1, [1], [])]), symsL 18 0, some ((.ofNat 186), [(0, (.negSucc 0)), (1, (.negSucc 0))]), 0, 0)
noncomputable def c162_0_p43 : PE := (1, [0, 1], (18, (zt62 []), [((.negSucc 68), [(0, (.ofNat 1)), (1, (.ofNat 1))]), ((.negSucc 69), [(0, (.ofNat 1)), (1, (.ofNat 1))]), ((.negSucc 116), [(0, (.ofNat 1)), (1, (.ofNat 1))]), ((.negSucc 117), [(0, (.ofNat 1)), (1, (.ofNat 1))])], [qvR 0, qvR 0, qvK (.ofNat 1)], zh169, [(2, [1], []), (1, [1], [])]), symsL 18 0, some ((.ofNat 187), [(0, (.negSucc 0)), (1, (.negSucc 0))]), 0, 0)
noncomputable def c162_0_p44 : PE := (1, [0, 1], (18, (zt63 []), [((.negSucc 68), [(0, (.ofNat 1)), (1, (.ofNat 1))]), ((.negSucc 69), [(0, (.ofNat 1)), (1, (.ofNat 1))]), ((.negSucc 117), [(0, (.ofNat 1)), (1, (.ofNat 1))]), ((.negSucc 118), [(0, (.ofNat 1)), (1, (.ofNat 1))])], [qvR 0, qvR 0, qvK (.ofNat 1)], zh170, [(2, [1], []), (1, [1], [])]), symsL 18 0, some ((.ofNat 188), [(0, (.negSucc 0)), (1, (.negSucc 0))]), 0, 0)
noncomputable def c162_0_p45 : PE := (1, [0, 1], (18, (zt64 []), [((.negSucc 68), [(0, (.ofNat 1)), (1, (.ofNat 1))]), ((.negSucc 69), [(0, (.ofNat 1)), (1, (.ofNat 1))]), ((.negSucc 73), [(0, (.ofNat 1)), (1, (.ofNat 1))]), ((.negSucc 74), [(0, (.ofNat 1)), (1, (.ofNat 1))])], [qvR 0, qvR 0, qvK (.ofNat 1)], zh171, [(2, [1], []), (1, [1], [])]), symsL 18 0, some ((.ofNat 144), [(0, (.negSucc 0)), (1, (.negSucc 0))]), 0, 0)
noncomputable def c162_0_p46 : PE := (1, [0, 1], (18, (zt65 []), [((.negSucc 68), [(0, (.ofNat 1)), (1, (.ofNat 1))]), ((.negSucc 69), [(0, (.ofNat 1)), (1, (.ofNat 1))]), ((.negSucc 118), [(0, (.ofNat 1)), (1, (.ofNat 1))]), ((.negSucc 119), [(0, (.ofNat 1)), (1, (.ofNat 1))])], [qvR 0, qvR 0, qvK (.ofNat 1)], zh172, [(2, [1], []), (1, [1], [])]), symsL 18 0, some ((.ofNat 189), [(0, (.negSucc 0)), (1, (.negSucc 0))]), 0, 0)
noncomputable def c162_0_p47 : PE := (1, [0, 1], (18, (zt66 []), [((.negSucc 68), [(0, (.ofNat 1)), (1, (.ofNat 1))]), ((.negSucc 69), [(0, (.ofNat 1)), (1, (.ofNat 1))]), ((.negSucc 119), [(0, (.ofNat 1)), (1, (.ofNat 1))]), ((.negSucc 120), [(0, (.ofNat 1)), (1, (.ofNat 1))])], [qvR 0, qvR 0, qvK (.ofNat 1)], zh173, [(2, [1], []), (1, [1], [])]), symsL 18 0, some ((.ofNat 190), [(0, (.negSucc 0)), (1, (.negSucc 0))]), 0, 0)
noncomputable def c162_0_p48 : PE := (1, [0, 1], (18, (zt67 []), [((.negSucc 68), [(0, (.ofNat 1)), (1, (.ofNat 1))]), ((.negSucc 69), [(0, (.ofNat 1)), (1, (.ofNat 1))]), ((.negSucc 120), [(0, (.ofNat 1)), (1, (.ofNat 1))]), ((.negSucc 121), [(0, (.ofNat 1)), (1, (.ofNat 1))])], [qvR 0, qvR 0, qvK (.ofNat 1)], zh174, [(2, [1], []), (1, [1], [])]), symsL 18 0, some ((.ofNat 191), [(0, (.negSucc 0)), (1, (.negSucc 0))]), 0, 0)
noncomputable def c162_0_p49 : PE := (1, [0, 1], (18, (zt68 []), [((.negSucc 68), [(0, (.ofNat 1)), (1, (.ofNat 1))]), ((.negSucc 69), [(0, (.ofNat 1)), (1, (.ofNat 1))]), ((.negSucc 121), [(0, (.ofNat 1)), (1, (.ofNat 1))]), ((.negSucc 122), [(0, (.ofNat 1)), (1, (.ofNat 1))])], [qvR 0, qvR 0, qvK (.ofNat 1)], zh175, [(2, [1], []), (1, [1], [])]), symsL 18 0, some ((.ofNat 192), [(0, (.negSucc 0)), (1, (.negSucc 0))]), 0, 0)
noncomputable def c162_0_p50 : PE := (1, [0, 1], (18, (zt69 []), [((.negSucc 68), [(0, (.ofNat 1)), (1, (.ofNat 1))]), ((.negSucc 69), [(0, (.ofNat 1)), (1, (.ofNat 1))]), ((.negSucc 122), [(0, (.ofNat 1)), (1, (.ofNat 1))]), ((.negSucc 123), [(0, (.ofNat 1)), (1, (.ofNat 1))])], [qvR 0, qvR 0, qvK (.ofNat 1)], zh176, [(2, [1], []), (1, [1], [])]), symsL 18 0, some ((.ofNat 193), [(0, (.negSucc 0)), (1, (.negSucc 0))]), 0, 0)
noncomputable def c162_0_p51 : PE := (1, [0, 1], (18, (zt70 []), [((.negSucc 68), [(0, (.ofNat 1)), (1, (.ofNat 1))]), ((.negSucc 69), [(0, (.ofNat 1)), (1, (.ofNat 1))]), ((.negSucc 123), [(0, (.ofNat 1)), (1, (.ofNat 1))]), ((.negSucc 124), [(0, (.ofNat 1)), (1, (.ofNat 1))])], [qvR 0, qvR 0, qvK (.ofNat 1)], zh177, [(2, [1], []), (1, [1], [])]), symsL 18 0, some ((.ofNat 194), [(0, (.negSucc 0)), (1, (.negSucc 0))]), 0, 0)
noncomputable def c162_0_p52 : PE := (1, [0, 1], (18, (zt71 []), [((.negSucc 68), [(0, (.ofNat 1)), (1, (.ofNat 1))]), ((.negSucc 69), [(0, (.ofNat 1)), (1, (.ofNat 1))]), ((.negSucc 124), [(0, (.ofNat 1)), (1, (.ofNat 1))]), ((.negSucc 125), [(0, (.ofNat 1)), (1, (.ofNat 1))])], [qvR 0, qvR 0, qvK (.ofNat 1)], zh178, [(2, [1], []), (1, [1], [])]), symsL 18 0, some ((.ofNat 195), [(0, (.negSucc 0)), (1, (.negSucc 0))]), 0, 0)
noncomputable def c162_0_p53 : PE := (1, [0, 1], (18, (zt72 []), [((.negSucc 68), [(0, (.ofNat 1)), (1, (.ofNat 1))]), ((.negSucc 69), [(0, (.ofNat 1)), (1, (.ofNat 1))]), ((.negSucc 125), [(0, (.ofNat 1)), (1, (.ofNat 1))]), ((.negSucc 126), [(0, (.ofNat 1)), (1, (.ofNat 1))])], [qvR 0, qvR 0, qvK (.ofNat 1)], zh179, [(2, [1], []), (1, [1], [])]), symsL 18 0, some ((.ofNat 196), [(0, (.negSucc 0)), (1, (.negSucc 0))]), 0, 0)
noncomputable def c162_0_p54 : PE := (1, [0, 1], (18, (zt73 []), [((.negSucc 68), [(0, (.ofNat 1)), (1, (.ofNat 1))]), ((.negSucc 69), [(0, (.ofNat 1)), (1, (.ofNat 1))]), ((.negSucc 126), [(0, (.ofNat 1)), (1, (.ofNat 1))]), ((.negSucc 127), [(0, (.ofNat 1)), (1, (.ofNat 1))])], [qvR 0, qvR 0, qvK (.ofNat 1)], zh180, [(2, [1], []), (1, [1], [])]), symsL 18 0, some ((.ofNat 197), [(0, (.negSucc 0)), (1, (.negSucc 0))]), 0, 0)
noncomputable def c162_0_p55 : PE := (1, [0, 1], (18, (zt74 []), [((.negSucc 68), [(0, (.ofNat 1)), (1, (.ofNat 1))]), ((.negSucc 69), [(0, (.ofNat 1)), (1, (.ofNat 1))]), ((.negSucc 127), [(0, (.ofNat 1)), (1, (.ofNat 1))]), ((.negSucc 128), [(0, (.ofNat 1)), (1, (.ofNat 1))])], [qvR 0, qvR 0, qvK (.ofNat 1)], zh181, [(2, [1], []), (1, [1], [])]), symsL 18 0, some ((.ofNat 198), [(0, (.negSucc 0)), (1, (.negSucc 0))]), 0, 0)
noncomputable def c162_0_p56 : PE := (1, [0, 1], (18, (zt75 []), [((.negSucc 68), [(0, (.ofNat 1)), (1, (.ofNat 1))]), ((.negSucc 69), [(0, (.ofNat 1)), (1, (.ofNat 1))]), ((.negSucc 74), [(0, (.ofNat 1)), (1, (.ofNat 1))]), ((.negSucc 75), [(0, (.ofNat 1)), (1, (.ofNat 1))])], [qvR 0, qvR 0, qvK (.ofNat 1)], zh182, [(2, [1], []), (1, [1], [])]), symsL 18 0, some ((.ofNat 145), [(0, (.negSucc 0)), (1, (.negSucc 0))]), 0, 0)
noncomputable def c162_0_p57 : PE := (1, [0, 1], (18, (zt76 []), [((.negSucc 68), [(0, (.ofNat 1)), (1, (.ofNat 1))]), ((.negSucc 69), [(0, (.ofNat 1)), (1, (.ofNat 1))]), ((.negSucc 128), [(0, (.ofNat 1)), (1, (.ofNat 1))]), ((.negSucc 129), [(0, (.ofNat 1)), (1, (.ofNat 1))])], [qvR 0, qvR 0, qvK (.ofNat 1)], zh183, [(2, [1], []), (1, [1], [])]), symsL 18 0, some ((.ofNat 199), [(0, (.negSucc 0)), (1, (.negSucc 0))]), 0, 0)
noncomputable def c162_0_p58 : PE := (1, [0, 1], (18, (zt77 []), [((.negSucc 68), [(0, (.ofNat 1)), (1, (.ofNat 1))]), ((.negSucc 69), [(0, (.ofNat 1)), (1, (.ofNat 1))]), ((.negSucc 129), [(0, (.ofNat 1)), (1, (.ofNat 1))]), ((.negSucc 130), [(0, (.ofNat 1)), (1, (.ofNat 1))])], [qvR 0, qvR 0, qvK (.ofNat 1)], zh184, [(2, [1], []), (1, [1], [])]), symsL 18 0, some ((.ofNat 200), [(0, (.negSucc 0)), (1, (.negSucc 0))]), 0, 0)
noncomputable def c162_0_p59 : PE := (1, [0, 1], (18, (zt78 []), [((.negSucc 68), [(0, (.ofNat 1)), (1, (.ofNat 1))]), ((.negSucc 69), [(0, (.ofNat 1)), (1, (.ofNat 1))]), ((.negSucc 130), [(0, (.ofNat 1)), (1, (.ofNat 1))]), ((.negSucc 131), [(0, (.ofNat 1)), (1, (.ofNat 1))])], [qvR 0, qvR 0, qvK (.ofNat 1)], zh185, [(2, [1], []), (1, [1], [])]), symsL 18 0, some ((.ofNat 201), [(0, (.negSucc 0)), (1, (.negSucc 0))]), 0, 0)
noncomputable def c162_0_p60 : PE := (1, [0, 1], (18, (zt79 []), [((.negSucc 68), [(0, (.ofNat 1)), (1, (.ofNat 1))]), ((.negSucc 69), [(0, (.ofNat 1)), (1, (.ofNat 1))]), ((.negSucc 131), [(0, (.ofNat 1)), (1, (.ofNat 1))]), ((.negSucc 132), [(0, (.ofNat 1)), (1, (.ofNat 1))])], [qvR 0, qvR 0, qvK (.ofNat 1)], zh186, [(2, [1], []), (1, [1], [])]), symsL 18 0, some ((.ofNat 202), [(0, (.negSucc 0)), (1, (.negSucc 0))]), 0, 0)
noncomputable def c162_0_p61 : PE := (1, [0, 1], (18, (zt80 []), [((.negSucc 68), [(0, (.ofNat 1)), (1, (.ofNat 1))]), ((.negSucc 69), [(0, (.ofNat 1)), (1, (.ofNat 1))]), ((.negSucc 132), [(0, (.ofNat 1)), (1, (.ofNat 1))]), ((.negSucc 133), [(0, (.ofNat 1)), (1, (.ofNat 1))])], [qvR 0, qvR 0, qvK (.ofNat 1)], zh187, [(2, [1], []), (1, [1], [])]), symsL 18 0, some ((.ofNat 203), [(0, (.negSucc 0)), (1, (.negSucc 0))]), 0, 0)
noncomputable def c162_0_p62 : PE := (1, [0, 1], (18, (zt81 []), [((.negSucc 68), [(0, (.ofNat 1)), (1, (.ofNat 1))]), ((.negSucc 69), [(0, (.ofNat 1)), (1, (.ofNat 1))]), ((.negSucc 133), [(0, (.ofNat 1)), (1, (.ofNat 1))]), ((.negSucc 134), [(0, (.ofNat 1)), (1, (.ofNat 1))])], [qvR 0, qvR 0, qvK (.ofNat 1)], zh188, [(2, [1], []), (1, [1], [])]), symsL 18 0, some ((.ofNat 204), [(0, (.negSucc 0)), (1, (.negSucc 0))]), 0, 0)
noncomputable def c162_0_p63 : PE := (1, [0, 1], (18, (zt82 []), [((.negSucc 68), [(0, (.ofNat 1)), (1, (.ofNat 1))]), ((.negSucc 69), [(0, (.ofNat 1)), (1, (.ofNat 1))]), ((.negSucc 134), [(0, (.ofNat 1)), (1, (.ofNat 1))]), ((.negSucc 135), [(0, (.ofNat 1)), (1, (.ofNat 1))])], [qvR 0, qvR 0, qvK (.ofNat 1)], zh189, [(2, [1], []), (1, [1], [])]), symsL 18 0, some ((.ofNat 205), [(0, (.negSucc 0)), (1, (.negSucc 0))]), 0, 0)
noncomputable def c162_0_p64 : PE := (1, [0, 1], (18, (zt83 []), [((.negSucc 68), [(0, (.ofNat 1)), (1, (.ofNat 1))]), ((.negSucc 69), [(0, (.ofNat 1)), (1, (.ofNat 1))]), ((.negSucc 135), [(0, (.ofNat 1)), (1, (.ofNat 1))]), ((.negSucc 136), [(0, (.ofNat 1)), (1, (.ofNat 1))])], [qvR 0, qvR 0, qvK (.ofNat 1)], zh190, [(2, [1], []), (1, [1], [])]), symsL 18 0, some ((.ofNat 206), [(0, (.negSucc 0)), (1, (.negSucc 0))]), 0, 0)
noncomputable def c162_0_p65 : PE := (1, [0, 1], (18, (zt84 []), [((.negSucc 68), [(0, (.ofNat 1)), (1, (.ofNat 1))]), ((.negSucc 69), [(0, (.ofNat 1)), (1, (.ofNat 1))]), ((.negSucc 136), [(0, (.ofNat 1)), (1, (.ofNat 1))])], [qvR 0, qvR 0, qvK (.ofNat 1)], zh191, [(2, [1], []), (1, [1], [])]), symsL 18 0, some ((.ofNat 207), [(0, (.negSucc 0)), (1, (.negSucc 0))]), 0, 0)
noncomputable def c162_0_p66 : PE := (1, [0, 1], (18, (zt85 []), [((.negSucc 68), [(0, (.ofNat 1)), (1, (.ofNat 1))]), ((.negSucc 69), [(0, (.ofNat 1)), (1, (.ofNat 1))])], [qvR 0, qvR 0, qvK (.ofNat 1)], zh125, [(2, [1], []), (1, [1], [])]), symsL 18 0, some ((.ofNat 139), [(0, (.negSucc 0))]), 0, 0)
noncomputable def c162_0_p67 : PE := (1, [0, 1], (18, (zt86 []), [((.negSucc 68), [(0, (.ofNat 1)), (1, (.ofNat 1))]), ((.negSucc 69), [(0, (.ofNat 1)), (1, (.ofNat 1))]), ((.negSucc 75), [(0, (.ofNat 1)), (1, (.ofNat 1))]), ((.negSucc 76), [(0, (.ofNat 1)), (1, (.ofNat 1))])], [qvR 0, qvR 0, qvK (.ofNat 1)], zh192, [(2, [1], []), (1, [1], [])]), symsL 18 0, some ((.ofNat 146), [(0, (.negSucc 0)), (1, (.negSucc 0))]), 0, 0)
noncomputable def c162_0_p68 : PE := (1, [0, 1], (18, (zt87 []), [((.negSucc 68), [(0, (.ofNat 1)), (1, (.ofNat 1))]), ((.negSucc 69), [(0, (.ofNat 1)), (1, (.ofNat 1))]), ((.negSucc 76), [(0, (.ofNat 1)), (1, (.ofNat 1))]), ((.negSucc 77), [(0, (.ofNat 1)), (1, (.ofNat 1))])], [qvR 0, qvR 0, qvK (.ofNat 1)], zh193, [(2, [1], []), (1, [1], [])]), symsL 18 0, some ((.ofNat 147), [(0, (.negSucc 0)), (1, (.negSucc 0))]), 0, 0)
noncomputable def c162_0_p69 : PE := (1, [0, 1], (18, (zt88 []), [((.negSucc 68), [(0, (.ofNat 1)), (1, (.ofNat 1))]), ((.negSucc 69), [(0, (.ofNat 1)), (1, (.ofNat 1))]), ((.negSucc 77), [(0, (.ofNat 1)), (1, (.ofNat 1))]), ((.negSucc 78), [(0, (.ofNat 1)), (1, (.ofNat 1))])], [qvR 0, qvR 0, qvK (.ofNat 1)], zh194, [(2, [1], []), (1, [1], [])]), symsL 18 0, some ((.ofNat 148), [(0, (.negSucc 0)), (1, (.negSucc 0))]), 0, 0)
noncomputable def c162_0_pts : List PE := [c162_0_p0, c162_0_p1, c162_0_p2, c162_0_p3, c162_0_p4, c162_0_p5, c162_0_p6, c162_0_p7, c162_0_p8, c162_0_p9, c162_0_p10, c162_0_p11, c162_0_p12, c162_0_p13, c162_0_p14, c162_0_p15, c162_0_p16, c162_0_p17, c162_0_p18, c162_0_p19, c162_0_p20, c162_0_p21, c162_0_p22, c162_0_p23, c162_0_p24, c162_0_p25, c162_0_p26, c162_0_p27, c162_0_p28, c162_0_p29, c162_0_p30, c162_0_p31, c162_0_p32, c162_0_p33, c162_0_p34, c162_0_p35, c162_0_p36, c162_0_p37, c162_0_p38, c162_0_p39, c162_0_p40, c162_0_p41, c162_0_p42, c162_0_p43, c162_0_p44, c162_0_p45, c162_0_p46, c162_0_p47, c162_0_p48, c162_0_p49, c162_0_p50, c162_0_p51, c162_0_p52, c162_0_p53, c162_0_p54, c162_0_p55, c162_0_p56, c162_0_p57, c162_0_p58, c162_0_p59, c162_0_p60, c162_0_p61, c162_0_p62, c162_0_p63, c162_0_p64, c162_0_p65, c162_0_p66, c162_0_p67, c162_0_p68, c162_0_p69]
set_option maxRecDepth 100000 in
theorem c162_0_k : enCtF c162_0 c162_0_e (pkP (c162_0_pts ++ []) [0, 1, 12, 23, 34, 45, 56, 67, 68, 69, 2, 3, 4, 5, 6, 7, 8, 9, 10, 11, 13, 14, 15, 16, 17, 18, 19, 20, 21, 22, 24, 25, 26, 27, 28, 29, 30, 31, 32, 33, 35, 36, 37, 38, 39, 40, 41, 42, 43, 44, 46, 47, 48, 49, 50, 51, 52, 53, 54, 55, 57, 58, 59, 60, 61, 62, 63, 64, 65, 66]) (none) ((hOr (hSplit 0 106 ) (hOr (atPc 1 (fPop 7 106)) (atPc 52 fWords))), noM, 2, 4503599627370499, 18) 3000 = true := by decide +kernel
set_option maxRecDepth 100000 in
theorem c162_0_k0 : ptCtF c162_0 c162_0_e (pkP (c162_0_pts ++ []) []) ((hOr (hSplit 0 106 ) (hOr (atPc 1 (fPop 7 106)) (atPc 52 fWords))), noM, 2, 4503599627370499, 18) 3000 c162_0_p0 = true := by decide +kernel
set_option maxRecDepth 100000 in
theorem c162_0_k1 : ptCtF c162_0 c162_0_e (pkP (c162_0_pts ++ []) [0]) ((hOr (hSplit 0 106 ) (hOr (atPc 1 (fPop 7 106)) (atPc 52 fWords))), noM, 2, 4503599627370499, 18) 3000 c162_0_p1 = true := by decide +kernel
set_option maxRecDepth 100000 in
theorem c162_0_k2 : ptCtF c162_0 c162_0_e (pkP (c162_0_pts ++ []) [69]) ((hOr (hSplit 0 106 ) (hOr (atPc 1 (fPop 7 106)) (atPc 52 fWords))), noM, 2, 4503599627370499, 18) 3000 c162_0_p2 = true := by decide +kernel
set_option maxRecDepth 100000 in
theorem c162_0_k3 : ptCtF c162_0 c162_0_e (pkP (c162_0_pts ++ []) [2]) ((hOr (hSplit 0 106 ) (hOr (atPc 1 (fPop 7 106)) (atPc 52 fWords))), noM, 2, 4503599627370499, 18) 3000 c162_0_p3 = true := by decide +kernel
set_option maxRecDepth 100000 in
theorem c162_0_k4 : ptCtF c162_0 c162_0_e (pkP (c162_0_pts ++ []) [3]) ((hOr (hSplit 0 106 ) (hOr (atPc 1 (fPop 7 106)) (atPc 52 fWords))), noM, 2, 4503599627370499, 18) 3000 c162_0_p4 = true := by decide +kernel
set_option maxRecDepth 100000 in
theorem c162_0_k5 : ptCtF c162_0 c162_0_e (pkP (c162_0_pts ++ []) [4]) ((hOr (hSplit 0 106 ) (hOr (atPc 1 (fPop 7 106)) (atPc 52 fWords))), noM, 2, 4503599627370499, 18) 3000 c162_0_p5 = true := by decide +kernel
set_option maxRecDepth 100000 in
theorem c162_0_k6 : ptCtF c162_0 c162_0_e (pkP (c162_0_pts ++ []) [5]) ((hOr (hSplit 0 106 ) (hOr (atPc 1 (fPop 7 106)) (atPc 52 fWords))), noM, 2, 4503599627370499, 18) 3000 c162_0_p6 = true := by decide +kernel
set_option maxRecDepth 100000 in
theorem c162_0_k7 : ptCtF c162_0 c162_0_e (pkP (c162_0_pts ++ []) [6]) ((hOr (hSplit 0 106 ) (hOr (atPc 1 (fPop 7 106)) (atPc 52 fWords))), noM, 2, 4503599627370499, 18) 3000 c162_0_p7 = true := by decide +kernel
set_option maxRecDepth 100000 in
theorem c162_0_k8 : ptCtF c162_0 c162_0_e (pkP (c162_0_pts ++ []) [7]) ((hOr (hSplit 0 106 ) (hOr (atPc 1 (fPop 7 106)) (atPc 52 fWords))), noM, 2, 4503599627370499, 18) 3000 c162_0_p8 = true := by decide +kernel
set_option maxRecDepth 100000 in
theorem c162_0_k9 : ptCtF c162_0 c162_0_e (pkP (c162_0_pts ++ []) [8]) ((hOr (hSplit 0 106 ) (hOr (atPc 1 (fPop 7 106)) (atPc 52 fWords))), noM, 2, 4503599627370499, 18) 3000 c162_0_p9 = true := by decide +kernel
set_option maxRecDepth 100000 in
theorem c162_0_k10 : ptCtF c162_0 c162_0_e (pkP (c162_0_pts ++ []) [9]) ((hOr (hSplit 0 106 ) (hOr (atPc 1 (fPop 7 106)) (atPc 52 fWords))), noM, 2, 4503599627370499, 18) 3000 c162_0_p10 = true := by decide +kernel
set_option maxRecDepth 100000 in
theorem c162_0_k11 : ptCtF c162_0 c162_0_e (pkP (c162_0_pts ++ []) [10]) ((hOr (hSplit 0 106 ) (hOr (atPc 1 (fPop 7 106)) (atPc 52 fWords))), noM, 2, 4503599627370499, 18) 3000 c162_0_p11 = true := by decide +kernel
set_option maxRecDepth 100000 in
theorem c162_0_k12 : ptCtF c162_0 c162_0_e (pkP (c162_0_pts ++ []) [1]) ((hOr (hSplit 0 106 ) (hOr (atPc 1 (fPop 7 106)) (atPc 52 fWords))), noM, 2, 4503599627370499, 18) 3000 c162_0_p12 = true := by decide +kernel
set_option maxRecDepth 100000 in
theorem c162_0_k13 : ptCtF c162_0 c162_0_e (pkP (c162_0_pts ++ []) [11]) ((hOr (hSplit 0 106 ) (hOr (atPc 1 (fPop 7 106)) (atPc 52 fWords))), noM, 2, 4503599627370499, 18) 3000 c162_0_p13 = true := by decide +kernel
set_option maxRecDepth 100000 in
theorem c162_0_k14 : ptCtF c162_0 c162_0_e (pkP (c162_0_pts ++ []) [13]) ((hOr (hSplit 0 106 ) (hOr (atPc 1 (fPop 7 106)) (atPc 52 fWords))), noM, 2, 4503599627370499, 18) 3000 c162_0_p14 = true := by decide +kernel
set_option maxRecDepth 100000 in
theorem c162_0_k15 : ptCtF c162_0 c162_0_e (pkP (c162_0_pts ++ []) [14]) ((hOr (hSplit 0 106 ) (hOr (atPc 1 (fPop 7 106)) (atPc 52 fWords))), noM, 2, 4503599627370499, 18) 3000 c162_0_p15 = true := by decide +kernel
set_option maxRecDepth 100000 in
theorem c162_0_k16 : ptCtF c162_0 c162_0_e (pkP (c162_0_pts ++ []) [15]) ((hOr (hSplit 0 106 ) (hOr (atPc 1 (fPop 7 106)) (atPc 52 fWords))), noM, 2, 4503599627370499, 18) 3000 c162_0_p16 = true := by decide +kernel
set_option maxRecDepth 100000 in
theorem c162_0_k17 : ptCtF c162_0 c162_0_e (pkP (c162_0_pts ++ []) [16]) ((hOr (hSplit 0 106 ) (hOr (atPc 1 (fPop 7 106)) (atPc 52 fWords))), noM, 2, 4503599627370499, 18) 3000 c162_0_p17 = true := by decide +kernel
set_option maxRecDepth 100000 in
theorem c162_0_k18 : ptCtF c162_0 c162_0_e (pkP (c162_0_pts ++ []) [17]) ((hOr (hSplit 0 106 ) (hOr (atPc 1 (fPop 7 106)) (atPc 52 fWords))), noM, 2, 4503599627370499, 18) 3000 c162_0_p18 = true := by decide +kernel
set_option maxRecDepth 100000 in
theorem c162_0_k19 : ptCtF c162_0 c162_0_e (pkP (c162_0_pts ++ []) [18]) ((hOr (hSplit 0 106 ) (hOr (atPc 1 (fPop 7 106)) (atPc 52 fWords))), noM, 2, 4503599627370499, 18) 3000 c162_0_p19 = true := by decide +kernel
set_option maxRecDepth 100000 in
theorem c162_0_k20 : ptCtF c162_0 c162_0_e (pkP (c162_0_pts ++ []) [19]) ((hOr (hSplit 0 106 ) (hOr (atPc 1 (fPop 7 106)) (atPc 52 fWords))), noM, 2, 4503599627370499, 18) 3000 c162_0_p20 = true := by decide +kernel
set_option maxRecDepth 100000 in
theorem c162_0_k21 : ptCtF c162_0 c162_0_e (pkP (c162_0_pts ++ []) [20]) ((hOr (hSplit 0 106 ) (hOr (atPc 1 (fPop 7 106)) (atPc 52 fWords))), noM, 2, 4503599627370499, 18) 3000 c162_0_p21 = true := by decide +kernel
set_option maxRecDepth 100000 in
theorem c162_0_k22 : ptCtF c162_0 c162_0_e (pkP (c162_0_pts ++ []) [21]) ((hOr (hSplit 0 106 ) (hOr (atPc 1 (fPop 7 106)) (atPc 52 fWords))), noM, 2, 4503599627370499, 18) 3000 c162_0_p22 = true := by decide +kernel
set_option maxRecDepth 100000 in
theorem c162_0_k23 : ptCtF c162_0 c162_0_e (pkP (c162_0_pts ++ []) [12]) ((hOr (hSplit 0 106 ) (hOr (atPc 1 (fPop 7 106)) (atPc 52 fWords))), noM, 2, 4503599627370499, 18) 3000 c162_0_p23 = true := by decide +kernel
set_option maxRecDepth 100000 in
theorem c162_0_k24 : ptCtF c162_0 c162_0_e (pkP (c162_0_pts ++ []) [22]) ((hOr (hSplit 0 106 ) (hOr (atPc 1 (fPop 7 106)) (atPc 52 fWords))), noM, 2, 4503599627370499, 18) 3000 c162_0_p24 = true := by decide +kernel
set_option maxRecDepth 100000 in
theorem c162_0_k25 : ptCtF c162_0 c162_0_e (pkP (c162_0_pts ++ []) [24]) ((hOr (hSplit 0 106 ) (hOr (atPc 1 (fPop 7 106)) (atPc 52 fWords))), noM, 2, 4503599627370499, 18) 3000 c162_0_p25 = true := by decide +kernel
set_option maxRecDepth 100000 in
theorem c162_0_k26 : ptCtF c162_0 c162_0_e (pkP (c162_0_pts ++ []) [25]) ((hOr (hSplit 0 106 ) (hOr (atPc 1 (fPop 7 106)) (atPc 52 fWords))), noM, 2, 4503599627370499, 18) 3000 c162_0_p26 = true := by decide +kernel
set_option maxRecDepth 100000 in
theorem c162_0_k27 : ptCtF c162_0 c162_0_e (pkP (c162_0_pts ++ []) [26]) ((hOr (hSplit 0 106 ) (hOr (atPc 1 (fPop 7 106)) (atPc 52 fWords))), noM, 2, 4503599627370499, 18) 3000 c162_0_p27 = true := by decide +kernel
set_option maxRecDepth 100000 in
theorem c162_0_k28 : ptCtF c162_0 c162_0_e (pkP (c162_0_pts ++ []) [27]) ((hOr (hSplit 0 106 ) (hOr (atPc 1 (fPop 7 106)) (atPc 52 fWords))), noM, 2, 4503599627370499, 18) 3000 c162_0_p28 = true := by decide +kernel
set_option maxRecDepth 100000 in
theorem c162_0_k29 : ptCtF c162_0 c162_0_e (pkP (c162_0_pts ++ []) [28]) ((hOr (hSplit 0 106 ) (hOr (atPc 1 (fPop 7 106)) (atPc 52 fWords))), noM, 2, 4503599627370499, 18) 3000 c162_0_p29 = true := by decide +kernel
set_option maxRecDepth 100000 in
theorem c162_0_k30 : ptCtF c162_0 c162_0_e (pkP (c162_0_pts ++ []) [29]) ((hOr (hSplit 0 106 ) (hOr (atPc 1 (fPop 7 106)) (atPc 52 fWords))), noM, 2, 4503599627370499, 18) 3000 c162_0_p30 = true := by decide +kernel
set_option maxRecDepth 100000 in
theorem c162_0_k31 : ptCtF c162_0 c162_0_e (pkP (c162_0_pts ++ []) [30]) ((hOr (hSplit 0 106 ) (hOr (atPc 1 (fPop 7 106)) (atPc 52 fWords))), noM, 2, 4503599627370499, 18) 3000 c162_0_p31 = true := by decide +kernel
set_option maxRecDepth 100000 in
theorem c162_0_k32 : ptCtF c162_0 c162_0_e (pkP (c162_0_pts ++ []) [31]) ((hOr (hSplit 0 106 ) (hOr (atPc 1 (fPop 7 106)) (atPc 52 fWords))), noM, 2, 4503599627370499, 18) 3000 c162_0_p32 = true := by decide +kernel
set_option maxRecDepth 100000 in
theorem c162_0_k33 : ptCtF c162_0 c162_0_e (pkP (c162_0_pts ++ []) [32]) ((hOr (hSplit 0 106 ) (hOr (atPc 1 (fPop 7 106)) (atPc 52 fWords))), noM, 2, 4503599627370499, 18) 3000 c162_0_p33 = true := by decide +kernel
set_option maxRecDepth 100000 in
theorem c162_0_k34 : ptCtF c162_0 c162_0_e (pkP (c162_0_pts ++ []) [23]) ((hOr (hSplit 0 106 ) (hOr (atPc 1 (fPop 7 106)) (atPc 52 fWords))), noM, 2, 4503599627370499, 18) 3000 c162_0_p34 = true := by decide +kernel
set_option maxRecDepth 100000 in
theorem c162_0_k35 : ptCtF c162_0 c162_0_e (pkP (c162_0_pts ++ []) [33]) ((hOr (hSplit 0 106 ) (hOr (atPc 1 (fPop 7 106)) (atPc 52 fWords))), noM, 2, 4503599627370499, 18) 3000 c162_0_p35 = true := by decide +kernel
set_option maxRecDepth 100000 in
theorem c162_0_k36 : ptCtF c162_0 c162_0_e (pkP (c162_0_pts ++ []) [35]) ((hOr (hSplit 0 106 ) (hOr (atPc 1 (fPop 7 106)) (atPc 52 fWords))), noM, 2, 4503599627370499, 18) 3000 c162_0_p36 = true := by decide +kernel
set_option maxRecDepth 100000 in
theorem c162_0_k37 : ptCtF c162_0 c162_0_e (pkP (c162_0_pts ++ []) [36]) ((hOr (hSplit 0 106 ) (hOr (atPc 1 (fPop 7 106)) (atPc 52 fWords))), noM, 2, 4503599627370499, 18) 3000 c162_0_p37 = true := by decide +kernel
set_option maxRecDepth 100000 in
theorem c162_0_k38 : ptCtF c162_0 c162_0_e (pkP (c162_0_pts ++ []) [37]) ((hOr (hSplit 0 106 ) (hOr (atPc 1 (fPop 7 106)) (atPc 52 fWords))), noM, 2, 4503599627370499, 18) 3000 c162_0_p38 = true := by decide +kernel
set_option maxRecDepth 100000 in
theorem c162_0_k39 : ptCtF c162_0 c162_0_e (pkP (c162_0_pts ++ []) [38]) ((hOr (hSplit 0 106 ) (hOr (atPc 1 (fPop 7 106)) (atPc 52 fWords))), noM, 2, 4503599627370499, 18) 3000 c162_0_p39 = true := by decide +kernel
set_option maxRecDepth 100000 in
theorem c162_0_k40 : ptCtF c162_0 c162_0_e (pkP (c162_0_pts ++ []) [39]) ((hOr (hSplit 0 106 ) (hOr (atPc 1 (fPop 7 106)) (atPc 52 fWords))), noM, 2, 4503599627370499, 18) 3000 c162_0_p40 = true := by decide +kernel
set_option maxRecDepth 100000 in
theorem c162_0_k41 : ptCtF c162_0 c162_0_e (pkP (c162_0_pts ++ []) [40]) ((hOr (hSplit 0 106 ) (hOr (atPc 1 (fPop 7 106)) (atPc 52 fWords))), noM, 2, 4503599627370499, 18) 3000 c162_0_p41 = true := by decide +kernel
set_option maxRecDepth 100000 in
theorem c162_0_k42 : ptCtF c162_0 c162_0_e (pkP (c162_0_pts ++ []) [41]) ((hOr (hSplit 0 106 ) (hOr (atPc 1 (fPop 7 106)) (atPc 52 fWords))), noM, 2, 4503599627370499, 18) 3000 c162_0_p42 = true := by decide +kernel
set_option maxRecDepth 100000 in
theorem c162_0_k43 : ptCtF c162_0 c162_0_e (pkP (c162_0_pts ++ []) [42]) ((hOr (hSplit 0 106 ) (hOr (atPc 1 (fPop 7 106)) (atPc 52 fWords))), noM, 2, 4503599627370499, 18) 3000 c162_0_p43 = true := by decide +kernel
set_option maxRecDepth 100000 in
theorem c162_0_k44 : ptCtF c162_0 c162_0_e (pkP (c162_0_pts ++ []) [43]) ((hOr (hSplit 0 106 ) (hOr (atPc 1 (fPop 7 106)) (atPc 52 fWords))), noM, 2, 4503599627370499, 18) 3000 c162_0_p44 = true := by decide +kernel
set_option maxRecDepth 100000 in
theorem c162_0_k45 : ptCtF c162_0 c162_0_e (pkP (c162_0_pts ++ []) [34]) ((hOr (hSplit 0 106 ) (hOr (atPc 1 (fPop 7 106)) (atPc 52 fWords))), noM, 2, 4503599627370499, 18) 3000 c162_0_p45 = true := by decide +kernel
set_option maxRecDepth 100000 in
theorem c162_0_k46 : ptCtF c162_0 c162_0_e (pkP (c162_0_pts ++ []) [44]) ((hOr (hSplit 0 106 ) (hOr (atPc 1 (fPop 7 106)) (atPc 52 fWords))), noM, 2, 4503599627370499, 18) 3000 c162_0_p46 = true := by decide +kernel
set_option maxRecDepth 100000 in
theorem c162_0_k47 : ptCtF c162_0 c162_0_e (pkP (c162_0_pts ++ []) [46]) ((hOr (hSplit 0 106 ) (hOr (atPc 1 (fPop 7 106)) (atPc 52 fWords))), noM, 2, 4503599627370499, 18) 3000 c162_0_p47 = true := by decide +kernel
set_option maxRecDepth 100000 in
theorem c162_0_k48 : ptCtF c162_0 c162_0_e (pkP (c162_0_pts ++ []) [47]) ((hOr (hSplit 0 106 ) (hOr (atPc 1 (fPop 7 106)) (atPc 52 fWords))), noM, 2, 4503599627370499, 18) 3000 c162_0_p48 = true := by decide +kernel
set_option maxRecDepth 100000 in
theorem c162_0_k49 : ptCtF c162_0 c162_0_e (pkP (c162_0_pts ++ []) [48]) ((hOr (hSplit 0 106 ) (hOr (atPc 1 (fPop 7 106)) (atPc 52 fWords))), noM, 2, 4503599627370499, 18) 3000 c162_0_p49 = true := by decide +kernel
set_option maxRecDepth 100000 in
theorem c162_0_k50 : ptCtF c162_0 c162_0_e (pkP (c162_0_pts ++ []) [49]) ((hOr (hSplit 0 106 ) (hOr (atPc 1 (fPop 7 106)) (atPc 52 fWords))), noM, 2, 4503599627370499, 18) 3000 c162_0_p50 = true := by decide +kernel
set_option maxRecDepth 100000 in
theorem c162_0_k51 : ptCtF c162_0 c162_0_e (pkP (c162_0_pts ++ []) [50]) ((hOr (hSplit 0 106 ) (hOr (atPc 1 (fPop 7 106)) (atPc 52 fWords))), noM, 2, 4503599627370499, 18) 3000 c162_0_p51 = true := by decide +kernel
set_option maxRecDepth 100000 in
theorem c162_0_k52 : ptCtF c162_0 c162_0_e (pkP (c162_0_pts ++ []) [51]) ((hOr (hSplit 0 106 ) (hOr (atPc 1 (fPop 7 106)) (atPc 52 fWords))), noM, 2, 4503599627370499, 18) 3000 c162_0_p52 = true := by decide +kernel
set_option maxRecDepth 100000 in
theorem c162_0_k53 : ptCtF c162_0 c162_0_e (pkP (c162_0_pts ++ []) [52]) ((hOr (hSplit 0 106 ) (hOr (atPc 1 (fPop 7 106)) (atPc 52 fWords))), noM, 2, 4503599627370499, 18) 3000 c162_0_p53 = true := by decide +kernel
set_option maxRecDepth 100000 in
theorem c162_0_k54 : ptCtF c162_0 c162_0_e (pkP (c162_0_pts ++ []) [53]) ((hOr (hSplit 0 106 ) (hOr (atPc 1 (fPop 7 106)) (atPc 52 fWords))), noM, 2, 4503599627370499, 18) 3000 c162_0_p54 = true := by decide +kernel
set_option maxRecDepth 100000 in
theorem c162_0_k55 : ptCtF c162_0 c162_0_e (pkP (c162_0_pts ++ []) [54]) ((hOr (hSplit 0 106 ) (hOr (atPc 1 (fPop 7 106)) (atPc 52 fWords))), noM, 2, 4503599627370499, 18) 3000 c162_0_p55 = true := by decide +kernel
set_option maxRecDepth 100000 in
theorem c162_0_k56 : ptCtF c162_0 c162_0_e (pkP (c162_0_pts ++ []) [45]) ((hOr (hSplit 0 106 ) (hOr (atPc 1 (fPop 7 106)) (atPc 52 fWords))), noM, 2, 4503599627370499, 18) 3000 c162_0_p56 = true := by decide +kernel
set_option maxRecDepth 100000 in
theorem c162_0_k57 : ptCtF c162_0 c162_0_e (pkP (c162_0_pts ++ []) [55]) ((hOr (hSplit 0 106 ) (hOr (atPc 1 (fPop 7 106)) (atPc 52 fWords))), noM, 2, 4503599627370499, 18) 3000 c162_0_p57 = true := by decide +kernel
set_option maxRecDepth 100000 in
theorem c162_0_k58 : ptCtF c162_0 c162_0_e (pkP (c162_0_pts ++ []) [57]) ((hOr (hSplit 0 106 ) (hOr (atPc 1 (fPop 7 106)) (atPc 52 fWords))), noM, 2, 4503599627370499, 18) 3000 c162_0_p58 = true := by decide +kernel
set_option maxRecDepth 100000 in
theorem c162_0_k59 : ptCtF c162_0 c162_0_e (pkP (c162_0_pts ++ []) [58]) ((hOr (hSplit 0 106 ) (hOr (atPc 1 (fPop 7 106)) (atPc 52 fWords))), noM, 2, 4503599627370499, 18) 3000 c162_0_p59 = true := by decide +kernel
set_option maxRecDepth 100000 in
theorem c162_0_k60 : ptCtF c162_0 c162_0_e (pkP (c162_0_pts ++ []) [59]) ((hOr (hSplit 0 106 ) (hOr (atPc 1 (fPop 7 106)) (atPc 52 fWords))), noM, 2, 4503599627370499, 18) 3000 c162_0_p60 = true := by decide +kernel
set_option maxRecDepth 100000 in
theorem c162_0_k61 : ptCtF c162_0 c162_0_e (pkP (c162_0_pts ++ []) [60]) ((hOr (hSplit 0 106 ) (hOr (atPc 1 (fPop 7 106)) (atPc 52 fWords))), noM, 2, 4503599627370499, 18) 3000 c162_0_p61 = true := by decide +kernel
set_option maxRecDepth 100000 in
theorem c162_0_k62 : ptCtF c162_0 c162_0_e (pkP (c162_0_pts ++ []) [61]) ((hOr (hSplit 0 106 ) (hOr (atPc 1 (fPop 7 106)) (atPc 52 fWords))), noM, 2, 4503599627370499, 18) 3000 c162_0_p62 = true := by decide +kernel
set_option maxRecDepth 100000 in
theorem c162_0_k63 : ptCtF c162_0 c162_0_e (pkP (c162_0_pts ++ []) [62]) ((hOr (hSplit 0 106 ) (hOr (atPc 1 (fPop 7 106)) (atPc 52 fWords))), noM, 2, 4503599627370499, 18) 3000 c162_0_p63 = true := by decide +kernel
set_option maxRecDepth 100000 in
theorem c162_0_k64 : ptCtF c162_0 c162_0_e (pkP (c162_0_pts ++ []) [63]) ((hOr (hSplit 0 106 ) (hOr (atPc 1 (fPop 7 106)) (atPc 52 fWords))), noM, 2, 4503599627370499, 18) 3000 c162_0_p64 = true := by decide +kernel
set_option maxRecDepth 100000 in
theorem c162_0_k65 : ptCtF c162_0 c162_0_e (pkP (c162_0_pts ++ []) [64]) ((hOr (hSplit 0 106 ) (hOr (atPc 1 (fPop 7 106)) (atPc 52 fWords))), noM, 2, 4503599627370499, 18) 3000 c162_0_p65 = true := by decide +kernel
set_option maxRecDepth 100000 in
theorem c162_0_k66 : ptCtF c162_0 c162_0_e (pkP (c162_0_pts ++ []) [65]) ((hOr (hSplit 0 106 ) (hOr (atPc 1 (fPop 7 106)) (atPc 52 fWords))), noM, 2, 4503599627370499, 18) 3000 c162_0_p66 = true := by decide +kernel
set_option maxRecDepth 100000 in
theorem c162_0_k67 : ptCtF c162_0 c162_0_e (pkP (c162_0_pts ++ []) [56]) ((hOr (hSplit 0 106 ) (hOr (atPc 1 (fPop 7 106)) (atPc 52 fWords))), noM, 2, 4503599627370499, 18) 3000 c162_0_p67 = true := by decide +kernel
set_option maxRecDepth 100000 in
theorem c162_0_k68 : ptCtF c162_0 c162_0_e (pkP (c162_0_pts ++ []) [67]) ((hOr (hSplit 0 106 ) (hOr (atPc 1 (fPop 7 106)) (atPc 52 fWords))), noM, 2, 4503599627370499, 18) 3000 c162_0_p68 = true := by decide +kernel
set_option maxRecDepth 100000 in
theorem c162_0_k69 : ptCtF c162_0 c162_0_e (pkP (c162_0_pts ++ []) [68]) ((hOr (hSplit 0 106 ) (hOr (atPc 1 (fPop 7 106)) (atPc 52 fWords))), noM, 2, 4503599627370499, 18) 3000 c162_0_p69 = true := by decide +kernel
set_option maxRecDepth 100000 in
theorem c162_0_v : ValidC PPk c162_0 := ct_ok fpk ⟨(hOr_ok (hSplit_ok 0 106 ) (hOr_ok (atPc_ok (fPop_ok 7 106)) (atPc_ok fWords_ok))), noM_ok⟩ (d := 1) (ext := []) (pts := c162_0_pts) (env := c162_0_e) rfl (List.forall_mem_cons.mpr ⟨⟨c163_0_v, Nat.le_of_ble_eq_true rfl⟩, List.forall_mem_cons.mpr ⟨⟨c164_0_v, Nat.le_of_ble_eq_true rfl⟩, fun _ h => (by cases h)⟩⟩) ext_nil (fun q h => (by cases h)) (enF c162_0_k) (List.forall_mem_cons.mpr ⟨⟨_, ptF c162_0_k0⟩, List.forall_mem_cons.mpr ⟨⟨_, ptF c162_0_k1⟩, List.forall_mem_cons.mpr ⟨⟨_, ptF c162_0_k2⟩, List.forall_mem_cons.mpr ⟨⟨_, ptF c162_0_k3⟩, List.forall_mem_cons.mpr ⟨⟨_, ptF c162_0_k4⟩, List.forall_mem_cons.mpr ⟨⟨_, ptF c162_0_k5⟩, List.forall_mem_cons.mpr ⟨⟨_, ptF c162_0_k6⟩, List.forall_mem_cons.mpr ⟨⟨_, ptF c162_0_k7⟩, List.forall_mem_cons.mpr ⟨⟨_, ptF c162_0_k8⟩, List.forall_mem_cons.mpr ⟨⟨_, ptF c162_0_k9⟩, List.forall_mem_cons.mpr ⟨⟨_, ptF c162_0_k10⟩, List.forall_mem_cons.mpr ⟨⟨_, ptF c162_0_k11⟩, List.forall_mem_cons.mpr ⟨⟨_, ptF c162_0_k12⟩, List.forall_mem_cons.mpr ⟨⟨_, ptF c162_0_k13⟩, List.forall_mem_cons.mpr ⟨⟨_, ptF c162_0_k14⟩, List.forall_mem_cons.mpr ⟨⟨_, ptF c162_0_k15⟩, List.forall_mem_cons.mpr ⟨⟨_, ptF c162_0_k16⟩, List.forall_mem_cons.mpr ⟨⟨_, ptF c162_0_k17⟩, List.forall_mem_cons.mpr ⟨⟨_, ptF c162_0_k18⟩, List.forall_mem_cons.mpr ⟨⟨_, ptF c162_0_k19⟩, List.forall_mem_cons.mpr ⟨⟨_, ptF c162_0_k20⟩, List.forall_mem_cons.mpr ⟨⟨_, ptF c162_0_k21⟩, List.forall_mem_cons.mpr ⟨⟨_, ptF c162_0_k22⟩, List.forall_mem_cons.mpr ⟨⟨_, ptF c162_0_k23⟩, List.forall_mem_cons.mpr ⟨⟨_, ptF c162_0_k24⟩, List.forall_mem_cons.mpr ⟨⟨_, ptF c162_0_k25⟩, List.forall_mem_cons.mpr ⟨⟨_, ptF c162_0_k26⟩, List.forall_mem_cons.mpr ⟨⟨_, ptF c162_0_k27⟩, List.forall_mem_cons.mpr ⟨⟨_, ptF c162_0_k28⟩, List.forall_mem_cons.mpr ⟨⟨_, ptF c162_0_k29⟩, List.forall_mem_cons.mpr ⟨⟨_, ptF c162_0_k30⟩, List.forall_mem_cons.mpr ⟨⟨_, ptF c162_0_k31⟩, List.forall_mem_cons.mpr ⟨⟨_, ptF c162_0_k32⟩, List.forall_mem_cons.mpr ⟨⟨_, ptF c162_0_k33⟩, List.forall_mem_cons.mpr ⟨⟨_, ptF c162_0_k34⟩, List.forall_mem_cons.mpr ⟨⟨_, ptF c162_0_k35⟩, List.forall_mem_cons.mpr ⟨⟨_, ptF c162_0_k36⟩, List.forall_mem_cons.mpr ⟨⟨_, ptF c162_0_k37⟩, List.forall_mem_cons.mpr ⟨⟨_, ptF c162_0_k38⟩, List.forall_mem_cons.mpr ⟨⟨_, ptF c162_0_k39⟩, List.forall_mem_cons.mpr ⟨⟨_, ptF c162_0_k40⟩, List.forall_mem_cons.mpr ⟨⟨_, ptF c162_0_k41⟩, List.forall_mem_cons.mpr ⟨⟨_, ptF c162_0_k42⟩, List.forall_mem_cons.mpr ⟨⟨_, ptF c162_0_k43⟩, List.forall_mem_cons.mpr ⟨⟨_, ptF c162_0_k44⟩, List.forall_mem_cons.mpr ⟨⟨_, ptF c162_0_k45⟩, List.forall_mem_cons.mpr ⟨⟨_, ptF c162_0_k46⟩, List.forall_mem_cons.mpr ⟨⟨_, ptF c162_0_k47⟩, List.forall_mem_cons.mpr ⟨⟨_, ptF c162_0_k48⟩, List.forall_mem_cons.mpr ⟨⟨_, ptF c162_0_k49⟩, List.forall_mem_cons.mpr ⟨⟨_, ptF c162_0_k50⟩, List.forall_mem_cons.mpr ⟨⟨_, ptF c162_0_k51⟩, List.forall_mem_cons.mpr ⟨⟨_, ptF c162_0_k52⟩, List.forall_mem_cons.mpr ⟨⟨_, ptF c162_0_k53⟩, List.forall_mem_cons.mpr ⟨⟨_, ptF c162_0_k54⟩, List.forall_mem_cons.mpr ⟨⟨_, ptF c162_0_k55⟩, List.forall_mem_cons.mpr ⟨⟨_, ptF c162_0_k56⟩, List.forall_mem_cons.mpr ⟨⟨_, ptF c162_0_k57⟩, List.forall_mem_cons.mpr ⟨⟨_, ptF c162_0_k58⟩, List.forall_mem_cons.mpr ⟨⟨_, ptF c162_0_k59⟩, List.forall_mem_cons.mpr ⟨⟨_, ptF c162_0_k60⟩, List.forall_mem_cons.mpr ⟨⟨_, ptF c162_0_k61⟩, List.forall_mem_cons.mpr ⟨⟨_, ptF c162_0_k62⟩, List.forall_mem_cons.mpr ⟨⟨_, ptF c162_0_k63⟩, List.forall_mem_cons.mpr ⟨⟨_, ptF c162_0_k64⟩, List.forall_mem_cons.mpr ⟨⟨_, ptF c162_0_k65⟩, List.forall_mem_cons.mpr ⟨⟨_, ptF c162_0_k66⟩, List.forall_mem_cons.mpr ⟨⟨_, ptF c162_0_k67⟩, List.forall_mem_cons.mpr ⟨⟨_, ptF c162_0_k68⟩, List.forall_mem_cons.mpr ⟨⟨_, ptF c162_0_k69⟩, fun _ h => (by cases h)⟩⟩⟩⟩⟩⟩⟩⟩⟩⟩⟩⟩⟩⟩⟩⟩⟩⟩⟩⟩⟩⟩⟩⟩⟩⟩⟩⟩⟩⟩⟩⟩⟩⟩⟩⟩⟩⟩⟩⟩⟩⟩⟩⟩⟩⟩⟩⟩⟩⟩⟩⟩⟩⟩⟩⟩⟩⟩⟩⟩⟩⟩⟩⟩⟩⟩⟩⟩⟩⟩)

noncomputable def c168_0 : Ct := (168, 1, (1, [qtA 0], [], [qvS 0], [], []),
  [((2, [(1, (.negSucc 0), (.ofNat 5))], [], [qvS 1], [], []), 0, 0)])
noncomputable def c168_0_e : List Ct := []
noncomputable def c168_0_pts : List PE := []
set_option maxRecDepth 100000 in
theorem c168_0_k : enCtF c168_0 c168_0_e (pkP (c168_0_pts ++ []) []) (none) noH 3000 = true := by decide +kernel
set_option maxRecDepth 100000 in
theorem c168_0_v : ValidC PPk c168_0 := ct_ok fpk noH_ok (d := 0) (ext := []) (pts := c168_0_pts) (env := c168_0_e) rfl (fun _ h => (by cases h)) ext_nil (fun q h => (by cases h)) (enF c168_0_k) (fun _ h => (by cases h))

noncomputable def zh195 : AH := [zc46, qkC 100 10, qkC 100 11, qkC 103 12, qkC 100 13, qkC 100 14, qiC 0 [qgA 70], qjC 1 70, qjC 1 8, qkC 100 15, qkC 100 16, qkC 100 17, qkC 100 18, qkC 100 19, qjC 1 4]
noncomputable def zh196 : AH := [qoC 12 [qvR 1, qvR 2, qvR 3, qvS 0, qvR 4, qvR 5, .inl (false, ((.ofNat 1), [(1, (.ofNat 1))])), qvR 6, qvR 7, qvS 2, qvR 8, qvS 3, qvR 9, qvR 10, qvR 11, qvR 12, qvS 4, qvS 5, qvS 6, qvR 13, qvS 7, qvS 8, qvS 9, qvR 14], qkC 100 10, qkC 100 11, qkC 103 12, qkC 100 13, qkC 100 14, qiC 0 [qgA 70], qjC 1 70, qjC 1 8, qkC 100 15, qkC 100 16, qkC 100 17, qkC 100 18, qkC 100 19, qjC 1 4]
noncomputable def c167_0 : Ct := (167, 1, (23, (zt5 [qtN 20 2 3, qtN 21 0 70, qtN 22 0 70]), [], [qvR 0, qvS 20], zh195, [(2, [1], []), (1, [1], []), (5, [6], [(sL 1), (sL 21), (sL 22)]), (4, [4], [(sL 0), (sL 22)])]),
  [((23, [], [], [], zh196, [(2, [1], []), (1, [1], []), (5, [6], [((.ofNat 1), [(1, (.ofNat 1))]), (sL 21), (sL 22)]), (4, [4], [(sL 0), (sL 22)])]), 0, 0)])
noncomputable def c167_0_e : List Ct := []
noncomputable def c167_0_pts : List PE := []
set_option maxRecDepth 100000 in
theorem c167_0_k : enCtF c167_0 c167_0_e (pkP (c167_0_pts ++ []) []) (none) ((hOr (hSplit 0 106 ) (hOr (atPc 1 (fConst 5 7 106)) (atPc 20 (fStk 7 106)))), noM, 0, 1048579, 23) 3000 = true := by decide +kernel
set_option maxRecDepth 100000 in
theorem c167_0_v : ValidC PPk c167_0 := ct_ok fpk ⟨(hOr_ok (hSplit_ok 0 106 ) (hOr_ok (atPc_ok (fConst_ok 5 7 106)) (atPc_ok (fStk_ok 7 106)))), noM_ok⟩ (d := 0) (ext := []) (pts := c167_0_pts) (env := c167_0_e) rfl (fun _ h => (by cases h)) ext_nil (fun q h => (by cases h)) (enF c167_0_k) (fun _ h => (by cases h))

noncomputable def c167_1 : Ct := (167, 1, (22, (zt5 [qtN 20 0 70, qtN 21 0 70]), [], [qvR 0, qvK (.ofNat 13)], zh195, [(2, [1], []), (1, [1], []), (5, [6], [(sL 1), (sL 20), (sL 21)]), (4, [4], [(sL 0), (sL 21)])]),
  [((22, [], [], [], zh196, [(2, [1], []), (1, [1], []), (5, [6], [((.ofNat 1), [(1, (.ofNat 1))]), ((.ofNat 1), [(20, (.ofNat 1))]), (sL 21)]), (4, [4], [(sL 0), (sL 21)])]), 0, 0)])
noncomputable def c167_1_e : List Ct := []
noncomputable def c167_1_pts : List PE := []
set_option maxRecDepth 100000 in
theorem c167_1_k : enCtF c167_1 c167_1_e (pkP (c167_1_pts ++ []) []) (none) ((hOr (hSplit 0 106 ) (hOr (atPc 1 (fConst 5 7 106)) (atPc 20 (fStk 7 106)))), noM, 0, 1048579, 22) 3000 = true := by decide +kernel
set_option maxRecDepth 100000 in
theorem c167_1_v : ValidC PPk c167_1 := ct_ok fpk ⟨(hOr_ok (hSplit_ok 0 106 ) (hOr_ok (atPc_ok (fConst_ok 5 7 106)) (atPc_ok (fStk_ok 7 106)))), noM_ok⟩ (d := 0) (ext := []) (pts := c167_1_pts) (env := c167_1_e) rfl (fun _ h => (by cases h)) ext_nil (fun q h => (by cases h)) (enF c167_1_k) (fun _ h => (by cases h))

noncomputable def c164_1 : Ct := (164, 1, (23, (zt5 [qtN 19 0 1, qtA 20, qtN 21 0 70, qtN 22 0 70]), [], [qvR 0, qvS 19, qvS 20], zh123, [(2, [1], []), (1, [1], []), (5, [6], [(sL 1), (sL 21), (sL 22)]), (4, [4], [(sL 0), (sL 22)])]),
  [((23, [], [], [], zh124, [(2, [1], []), (1, [1], []), (5, [6], [(sL 1), (sL 21), (sL 22)]), (4, [4], [((.ofNat 1), [(0, (.ofNat 1))]), ((.ofNat 1), [(22, (.ofNat 1))])])]), 0, 0)])
noncomputable def c164_1_e : List Ct := []
noncomputable def c164_1_pts : List PE := []
set_option maxRecDepth 100000 in
theorem c164_1_k : enCtF c164_1 c164_1_e (pkP (c164_1_pts ++ []) []) (none) ((hOr (hSplit 0 103 ) (hOr (atPc 1 (fConst 4 4 103)) (atPc 30 (fCode 4 103)))), noM, 0, 1073741827, 23) 3000 = true := by decide +kernel
set_option maxRecDepth 100000 in
theorem c164_1_v : ValidC PPk c164_1 := ct_ok fpk ⟨(hOr_ok (hSplit_ok 0 103 ) (hOr_ok (atPc_ok (fConst_ok 4 4 103)) (atPc_ok (fCode_ok 4 103)))), noM_ok⟩ (d := 0) (ext := []) (pts := c164_1_pts) (env := c164_1_e) rfl (fun _ h => (by cases h)) ext_nil (fun q h => (by cases h)) (enF c164_1_k) (fun _ h => (by cases h))

noncomputable def c163_1 : Ct := (163, 1, (1, [qtN 0 0 13], [], [qvS 0], [], []),
  [((1, [qtN 0 0 1], [], [qvK (.ofNat 0)], [], []), 0, 0),
   ((1, [qtN 0 2 3], [], [qvK (.ofNat 6)], [], []), 0, 0),
   ((1, [qtN 0 4 5], [], [qvK (.ofNat 5)], [], []), 0, 0),
   ((1, [qtN 0 6 7], [], [qvK (.ofNat 4)], [], []), 0, 0),
   ((1, [qtN 0 8 10], [], [qvK (.ofNat 3)], [], []), 0, 0),
   ((1, [qtN 0 11 11], [], [qvK (.ofNat 2)], [], []), 0, 0),
   ((1, [qtN 0 12 12], [], [qvK (.ofNat 1)], [], []), 0, 0),
   ((1, [qtN 0 13 13], [], [qvK (.ofNat 0)], [], []), 0, 0)])
noncomputable def c163_1_e : List Ct := []
noncomputable def c163_1_pts : List PE := []
set_option maxRecDepth 100000 in
theorem c163_1_k : enCtF c163_1 c163_1_e (pkP (c163_1_pts ++ []) []) (some (0, 0, 14)) noH 3000 = true := by decide +kernel
set_option maxRecDepth 100000 in
theorem c163_1_v : ValidC PPk c163_1 := ct_ok fpk noH_ok (d := 0) (ext := []) (pts := c163_1_pts) (env := c163_1_e) rfl (fun _ h => (by cases h)) ext_nil (fun q h => (by cases h; exact Nat.le_of_ble_eq_true rfl)) (enF c163_1_k) (fun _ h => (by cases h))

noncomputable def c164_2 : Ct := (164, 1, (23, (zt5 [qtN 19 2 3, qtA 20, qtN 21 0 70, qtN 22 0 70]), [], [qvR 0, qvS 19, qvS 20], zh123, [(2, [1], []), (1, [1], []), (5, [6], [(sL 1), (sL 21), (sL 22)]), (4, [4], [(sL 0), ((.ofNat 1), [(22, (.ofNat 1))])])]),
  [((23, [], [], [], zh124, [(2, [1], []), (1, [1], []), (5, [6], [(sL 1), (sL 21), (sL 22)]), (4, [4], [((.ofNat 1), [(0, (.ofNat 1))]), ((.ofNat 1), [(22, (.ofNat 1))])])]), 0, 0)])
noncomputable def c164_2_e : List Ct := []
noncomputable def c164_2_pts : List PE := []
set_option maxRecDepth 100000 in
theorem c164_2_k : enCtF c164_2 c164_2_e (pkP (c164_2_pts ++ []) []) (none) ((hOr (hSplit 0 103 ) (hOr (atPc 1 (fConst 4 4 103)) (atPc 30 (fCode 4 103)))), noM, 0, 1073741827, 23) 3000 = true := by decide +kernel
set_option maxRecDepth 100000 in
theorem c164_2_v : ValidC PPk c164_2 := ct_ok fpk ⟨(hOr_ok (hSplit_ok 0 103 ) (hOr_ok (atPc_ok (fConst_ok 4 4 103)) (atPc_ok (fCode_ok 4 103)))), noM_ok⟩ (d := 0) (ext := []) (pts := c164_2_pts) (env := c164_2_e) rfl (fun _ h => (by cases h)) ext_nil (fun q h => (by cases h)) (enF c164_2_k) (fun _ h => (by cases h))

noncomputable def c164_3 : Ct := (164, 1, (23, (zt5 [qtN 19 4 12, qtA 20, qtN 21 0 70, qtN 22 0 70]), [], [qvR 0, qvS 19, qvS 20], zh123, [(2, [1], []), (1, [1], []), (5, [6], [(sL 1), (sL 21), (sL 22)]), (4, [4], [(sL 0), ((.ofNat 2), [(22, (.ofNat 1))])])]),
  [((23, [], [], [], zh124, [(2, [1], []), (1, [1], []), (5, [6], [(sL 1), (sL 21), (sL 22)]), (4, [4], [((.ofNat 1), [(0, (.ofNat 1))]), ((.ofNat 1), [(22, (.ofNat 1))])])]), 0, 0)])
noncomputable def c164_3_e : List Ct := []
noncomputable def c164_3_pts : List PE := []
set_option maxRecDepth 100000 in
theorem c164_3_k : enCtF c164_3 c164_3_e (pkP (c164_3_pts ++ []) []) (none) ((hOr (hSplit 0 103 ) (hOr (atPc 1 (fConst 4 4 103)) (atPc 30 (fCode 4 103)))), noM, 0, 1073741827, 23) 3000 = true := by decide +kernel
set_option maxRecDepth 100000 in
theorem c164_3_v : ValidC PPk c164_3 := ct_ok fpk ⟨(hOr_ok (hSplit_ok 0 103 ) (hOr_ok (atPc_ok (fConst_ok 4 4 103)) (atPc_ok (fCode_ok 4 103)))), noM_ok⟩ (d := 0) (ext := []) (pts := c164_3_pts) (env := c164_3_e) rfl (fun _ h => (by cases h)) ext_nil (fun q h => (by cases h)) (enF c164_3_k) (fun _ h => (by cases h))
