/-! ===== contracts, written by wip/vse3/emitlaw.py ===== -/
noncomputable def zh555 : AH := [qoC 12 [qvR 1, qvR 2, qvR 3, qvK (.ofNat 0), qvR 4, qvR 5, qvK (.ofNat 0), qvR 6, qvR 7, qvK (.ofNat 0), qvR 8, qvK (.ofNat 0), qvR 9, qvR 10, qvR 11, qvR 12, qvS 3, qvK (.ofNat 0), qvS 3, qvR 13, qvK (.ofNat 0), qvK (.ofNat 0), qvK (.ofNat 0), qvR 14], zc442, qiC 0 [qgN 1820 0 0], qiC 3 [qgN 2 0 0], qiC 0 [qgN 70 0 0], qiC 0 [qgN 70 0 0], qiC 0 [qgN 70 0 0], qjC 1 1000000070, qjC 1 1000000008, zc442, zc488, qiC 0 [qgN 20 0 0], qiC 0 [qgN 20 0 0], qiC 0 [qgN 910 0 0], qjC 1 1000000004]
noncomputable def zh556 : AH := [zc27, zc442, qiC 0 [qgN 1820 0 0], qiC 3 [qgN 2 0 0], qiC 0 [qgN 70 0 0], qiC 0 [qgN 70 0 0], qiC 0 [qgN 70 0 0], qjC 1 1000000070, qjC 1 1000000008, zc442, qiC 0 [qgN 1 3 3, qgN 7 0 0, qgN 1 3 3, qgN 1 5 5, qgN 4 0 0, qgS 3, qgN 2 0 0, qgN 1 100 100, qgN 1 0 0, qgS 4, .inr (1, (.negSucc 0), (.negSucc 0)), qgN 21 0 0, qgN 1 1 1, qgN 39 0 0, qgN 1 1 1, qgN 39 0 0, qgN 1 1 1, qgN 39 0 0, qgN 1 1 1, qgN 621 0 0, .inr (1, (.negSucc 99), (.negSucc 99)), qgN 1 100 100, .inr (1, (.negSucc 99), (.negSucc 99)), qgN 1 100 100, .inr (1, (.negSucc 99), (.negSucc 99)), qgN 1 100 100, .inr (1, (.negSucc 99), (.negSucc 99)), qgN 1 100 100, qgN 118 0 0], qiC 0 [qgN 20 0 0], qiC 0 [qgN 20 0 0], qiC 0 [qgN 910 0 0], qjC 1 1000000004]
noncomputable def zh557 : AH := [qoC 12 [qvR 1, qvR 2, qvR 3, qvK (.ofNat 0), qvR 4, qvR 5, qvK (.ofNat 0), qvR 6, qvR 7, qvK (.ofNat 0), qvR 8, qvK (.ofNat 0), qvR 9, qvR 10, qvR 11, qvR 12, qvS 4, qvK (.ofNat 0), qvS 4, qvR 13, qvK (.ofNat 0), qvK (.ofNat 0), qvK (.ofNat 0), qvR 14], zc442, qiC 0 [qgN 1820 0 0], qiC 3 [qgN 2 0 0], qiC 0 [qgN 70 0 0], qiC 0 [qgN 70 0 0], qiC 0 [qgN 70 0 0], qjC 1 1000000070, qjC 1 1000000008, zc442, zc491, qiC 0 [qgN 20 0 0], qiC 0 [qgN 20 0 0], qiC 0 [qgN 910 0 0], qjC 1 1000000004]
noncomputable def zh558 : AH := [qoC 12 [qvR 1, qvR 2, qvR 3, qvK (.ofNat 0), qvR 4, qvR 5, qvK (.ofNat 0), qvR 6, qvR 7, qvK (.ofNat 0), qvR 8, qvK (.ofNat 0), qvR 9, qvR 10, qvR 11, qvR 12, qvS 5, qvK (.ofNat 0), qvS 5, qvR 13, qvK (.ofNat 0), qvK (.ofNat 0), qvK (.ofNat 0), qvR 14], zc442, qiC 0 [qgN 1820 0 0], qiC 3 [qgN 2 0 0], qiC 0 [qgN 70 0 0], qiC 0 [qgN 70 0 0], qiC 0 [qgN 70 0 0], qjC 1 1000000070, qjC 1 1000000008, zc442, zc554, qiC 0 [qgN 20 0 0], qiC 0 [qgN 20 0 0], qiC 0 [qgN 910 0 0], qjC 1 1000000004]
noncomputable def c214_0 : Ct := (214, 8, (3, [qtA 0, qtA 1, qtA 2], [], [qvR 0, qvS 0, qvS 1, qvS 2], zh29, []),
  [((3, [(0, (.negSucc 2147483647), (.negSucc 0))], [], [qvK (.negSucc 1)], zh29, []), 0, 0),
   ((3, [qtN 0 3 2147483647], [], [qvK (.negSucc 1)], zh29, []), 0, 0),
   ((3, [qtN 0 0 2, (1, (.negSucc 2147483647), (.ofNat 0))], [], [qvK (.negSucc 1)], zh29, []), 0, 0),
   ((3, [qtN 0 0 2, qtN 1 21 2147483647], [], [qvK (.negSucc 1)], zh29, []), 0, 0),
   ((3, [qtN 0 0 2, qtN 1 1 20, (2, (.negSucc 2147483647), (.negSucc 0))], [], [qvK (.negSucc 1)], zh29, []), 0, 0),
   ((3, [qtN 0 0 2, qtN 1 1 20, qtN 2 4 2147483647], [], [qvK (.negSucc 1)], zh29, []), 0, 0),
   ((6, [qtN 0 0 2, qtN 1 1 20, qtN 2 0 0, (3, (.negSucc 0), (.ofNat 0)), qtN 4 1 20, qtA 5], [], [qvK (.ofNat 0)], zh555, []), 0, 0),
   ((6, [qtN 0 0 2, qtN 1 1 20, qtN 2 1 1, (3, (.negSucc 0), (.ofNat 0)), qtN 4 1 20, qtA 5], [], [qvK (.ofNat 0)], zh555, []), 0, 0),
   ((6, [qtN 0 0 2, qtN 1 1 20, qtN 2 2 2, (3, (.negSucc 0), (.ofNat 0)), qtN 4 1 20, qtA 5], [], [qvK (.ofNat 0)], zh555, []), 0, 0),
   ((6, [qtN 0 0 2, qtN 1 1 20, qtN 2 3 3, (3, (.negSucc 0), (.ofNat 0)), qtN 4 1 20, qtA 5], [], [qvK (.ofNat 384)], zh555, []), 0, 0)])
noncomputable def c214_0_e : List Ct := [c145_20, c145_3, c173_0, c209_0, c210_0, c212_0, c212_1]
noncomputable def c214_0_p0 : PE := (45, [0, 1, 2, 3, 4, 5], (5, [qtN 0 0 2, qtN 1 1 20, qtN 2 0 0, qtN 3 1 20, qtA 4], [], [qvR 0, qvS 0, qvS 1, qvS 2, qvK (.ofNat 0), qvK (.ofNat 0)], zh556, []), symsL 3 0, some ((.ofNat 5115), []), 0, 0)
noncomputable def c214_0_p1 : PE := (45, [0, 1, 2, 3, 4, 5, 6], (7, [qtN 0 0 2, qtN 1 1 20, qtN 2 0 0, qtN 3 1 12, (4, (.negSucc 0), (.ofNat 0)), qtN 5 1 20, qtA 6], [], [qvR 0, qvS 0, qvS 1, qvS 2, qvK (.ofNat 0), qvS 3, qvK (.ofNat 32)], zh557, []), symsL 3 0, some ((.ofNat 5115), [(3, (.negSucc 131))]), 0, 0)
noncomputable def c214_0_p2 : PE := (45, [0, 1, 2, 3, 4, 5], (5, [qtN 0 0 2, qtN 1 1 20, qtN 2 1 1, qtN 3 1 20, qtA 4], [], [qvR 0, qvS 0, qvS 1, qvS 2, qvK (.ofNat 0), qvK (.ofNat 0)], zh556, []), symsL 3 0, some ((.ofNat 5115), []), 0, 0)
noncomputable def c214_0_p3 : PE := (45, [0, 1, 2, 3, 4, 5, 6], (7, [qtN 0 0 2, qtN 1 1 20, qtN 2 1 1, qtN 3 1 12, (4, (.negSucc 0), (.ofNat 0)), qtN 5 1 20, qtA 6], [], [qvR 0, qvS 0, qvS 1, qvS 2, qvK (.ofNat 0), qvS 3, qvK (.ofNat 32)], zh557, []), symsL 3 0, some ((.ofNat 5115), [(3, (.negSucc 131))]), 0, 0)
noncomputable def c214_0_p4 : PE := (45, [0, 1, 2, 3, 4, 5], (5, [qtN 0 0 2, qtN 1 1 20, qtN 2 2 2, qtN 3 1 20, qtA 4], [], [qvR 0, qvS 0, qvS 1, qvS 2, qvK (.ofNat 0), qvK (.ofNat 0)], zh556, []), symsL 3 0, some ((.ofNat 5115), []), 0, 0)
noncomputable def c214_0_p5 : PE := (45, [0, 1, 2, 3, 4, 5, 6], (7, [qtN 0 0 2, qtN 1 1 20, qtN 2 2 2, qtN 3 1 12, (4, (.negSucc 0), (.ofNat 0)), qtN 5 1 20, qtA 6], [], [qvR 0, qvS 0, qvS 1, qvS 2, qvK (.ofNat 0), qvS 3, qvK (.ofNat 32)], zh557, []), symsL 3 0, some ((.ofNat 5115), [(3, (.negSucc 131))]), 0, 0)
noncomputable def c214_0_p6 : PE := (45, [0, 1, 2, 3, 4, 5], (5, [qtN 0 0 2, qtN 1 1 20, qtN 2 3 3, qtN 3 1 20, qtA 4], [], [qvR 0, qvS 0, qvS 1, qvS 2, qvK (.ofNat 0), qvK (.ofNat 0)], zh556, []), symsL 3 0, some ((.ofNat 5115), []), 0, 0)
noncomputable def c214_0_p7 : PE := (45, [0, 1, 2, 3, 4, 5, 6], (7, [qtN 0 0 2, qtN 1 1 20, qtN 2 3 3, qtN 3 1 12, (4, (.negSucc 0), (.ofNat 0)), qtN 5 1 20, qtA 6], [], [qvR 0, qvS 0, qvS 1, qvS 2, .inl (false, ((.ofNat 0), [(3, (.ofNat 32))])), qvS 3, qvK (.ofNat 32)], zh557, []), symsL 3 0, some ((.ofNat 5115), [(3, (.negSucc 131))]), 0, 0)
noncomputable def c214_0_p8 : PE := (55, [0, 1, 2, 3, 4, 5, 6], (8, [qtN 0 0 2, qtN 1 1 20, qtN 2 0 0, qtN 3 0 11, qtN 4 0 32, (5, (.negSucc 0), (.ofNat 0)), qtN 6 1 20, qtA 7], [], [qvR 0, qvS 0, qvS 1, qvS 2, qvK (.ofNat 0), qvS 3, qvS 4], zh558, []), symsL 3 0, some ((.ofNat 5081), [(3, (.negSucc 131)), (4, (.negSucc 0))]), 0, 0)
noncomputable def c214_0_p9 : PE := (55, [0, 1, 2, 3, 4, 5, 6], (8, [qtN 0 0 2, qtN 1 1 20, qtN 2 1 1, qtN 3 0 11, qtN 4 0 32, (5, (.negSucc 0), (.ofNat 0)), qtN 6 1 20, qtA 7], [], [qvR 0, qvS 0, qvS 1, qvS 2, qvK (.ofNat 0), qvS 3, qvS 4], zh558, []), symsL 3 0, some ((.ofNat 5081), [(3, (.negSucc 131)), (4, (.negSucc 0))]), 0, 0)
noncomputable def c214_0_p10 : PE := (55, [0, 1, 2, 3, 4, 5, 6], (8, [qtN 0 0 2, qtN 1 1 20, qtN 2 2 2, qtN 3 0 11, qtN 4 0 32, (5, (.negSucc 0), (.ofNat 0)), qtN 6 1 20, qtA 7], [], [qvR 0, qvS 0, qvS 1, qvS 2, qvK (.ofNat 0), qvS 3, qvS 4], zh558, []), symsL 3 0, some ((.ofNat 5081), [(3, (.negSucc 131)), (4, (.negSucc 0))]), 0, 0)
noncomputable def c214_0_p11 : PE := (55, [0, 1, 2, 3, 4, 5, 6], (8, [qtN 0 0 2, qtN 1 1 20, qtN 2 3 3, qtN 3 0 11, qtN 4 0 32, (5, (.negSucc 0), (.ofNat 0)), qtN 6 1 20, qtA 7], [], [qvR 0, qvS 0, qvS 1, qvS 2, .inl (false, ((.ofNat 0), [(3, (.ofNat 32)), (4, (.ofNat 1))])), qvS 3, qvS 4], zh558, []), symsL 3 0, some ((.ofNat 5081), [(3, (.negSucc 131)), (4, (.negSucc 0))]), 0, 0)
noncomputable def c214_0_pts : List PE := [c214_0_p0, c214_0_p1, c214_0_p2, c214_0_p3, c214_0_p4, c214_0_p5, c214_0_p6, c214_0_p7, c214_0_p8, c214_0_p9, c214_0_p10, c214_0_p11]
set_option maxRecDepth 100000 in
theorem c214_0_k : enCtF c214_0 c214_0_e (pkP (c214_0_pts ++ []) [0, 2, 4, 6]) (none) ((hSplit 39 3 ), noM, 36063981391052800, 549755813888, 3) 3000 = true := by decide +kernel
set_option maxRecDepth 100000 in
theorem c214_0_k0 : ptCtF c214_0 c214_0_e (pkP (c214_0_pts ++ []) [8]) ((hSplit 39 3 ), noM, 36063981391052800, 549755813888, 3) 3000 c214_0_p0 = true := by decide +kernel
set_option maxRecDepth 100000 in
theorem c214_0_k1 : ptCtF c214_0 c214_0_e (pkP (c214_0_pts ++ []) [8]) ((hSplit 39 3 ), noM, 36063981391052800, 549755813888, 3) 3000 c214_0_p1 = true := by decide +kernel
set_option maxRecDepth 100000 in
theorem c214_0_k2 : ptCtF c214_0 c214_0_e (pkP (c214_0_pts ++ []) [9]) ((hSplit 39 3 ), noM, 36063981391052800, 549755813888, 3) 3000 c214_0_p2 = true := by decide +kernel
set_option maxRecDepth 100000 in
theorem c214_0_k3 : ptCtF c214_0 c214_0_e (pkP (c214_0_pts ++ []) [9]) ((hSplit 39 3 ), noM, 36063981391052800, 549755813888, 3) 3000 c214_0_p3 = true := by decide +kernel
set_option maxRecDepth 100000 in
theorem c214_0_k4 : ptCtF c214_0 c214_0_e (pkP (c214_0_pts ++ []) [10]) ((hSplit 39 3 ), noM, 36063981391052800, 549755813888, 3) 3000 c214_0_p4 = true := by decide +kernel
set_option maxRecDepth 100000 in
theorem c214_0_k5 : ptCtF c214_0 c214_0_e (pkP (c214_0_pts ++ []) [10]) ((hSplit 39 3 ), noM, 36063981391052800, 549755813888, 3) 3000 c214_0_p5 = true := by decide +kernel
set_option maxRecDepth 100000 in
theorem c214_0_k6 : ptCtF c214_0 c214_0_e (pkP (c214_0_pts ++ []) [11]) ((hSplit 39 3 ), noM, 36063981391052800, 549755813888, 3) 3000 c214_0_p6 = true := by decide +kernel
set_option maxRecDepth 100000 in
theorem c214_0_k7 : ptCtF c214_0 c214_0_e (pkP (c214_0_pts ++ []) [11]) ((hSplit 39 3 ), noM, 36063981391052800, 549755813888, 3) 3000 c214_0_p7 = true := by decide +kernel
set_option maxRecDepth 100000 in
theorem c214_0_k8 : ptCtF c214_0 c214_0_e (pkP (c214_0_pts ++ []) [1, 8]) ((hSplit 39 3 ), noM, 36063981391052800, 549755813888, 3) 3000 c214_0_p8 = true := by decide +kernel
set_option maxRecDepth 100000 in
theorem c214_0_k9 : ptCtF c214_0 c214_0_e (pkP (c214_0_pts ++ []) [3, 9]) ((hSplit 39 3 ), noM, 36063981391052800, 549755813888, 3) 3000 c214_0_p9 = true := by decide +kernel
set_option maxRecDepth 100000 in
theorem c214_0_k10 : ptCtF c214_0 c214_0_e (pkP (c214_0_pts ++ []) [5, 10]) ((hSplit 39 3 ), noM, 36063981391052800, 549755813888, 3) 3000 c214_0_p10 = true := by decide +kernel
set_option maxRecDepth 100000 in
theorem c214_0_k11 : ptCtF c214_0 c214_0_e (pkP (c214_0_pts ++ []) [7, 11]) ((hSplit 39 3 ), noM, 36063981391052800, 549755813888, 3) 3000 c214_0_p11 = true := by decide +kernel
set_option maxRecDepth 100000 in
theorem c214_0_v : ValidC PPk c214_0 := ct_ok fpk ⟨(hSplit_ok 39 3 ), noM_ok⟩ (d := 7) (ext := []) (pts := c214_0_pts) (env := c214_0_e) rfl (List.forall_mem_cons.mpr ⟨⟨c145_20_v, Nat.le_of_ble_eq_true rfl⟩, List.forall_mem_cons.mpr ⟨⟨c145_3_v, Nat.le_of_ble_eq_true rfl⟩, List.forall_mem_cons.mpr ⟨⟨c173_0_v, Nat.le_of_ble_eq_true rfl⟩, List.forall_mem_cons.mpr ⟨⟨c209_0_v, Nat.le_of_ble_eq_true rfl⟩, List.forall_mem_cons.mpr ⟨⟨c210_0_v, Nat.le_of_ble_eq_true rfl⟩, List.forall_mem_cons.mpr ⟨⟨c212_0_v, Nat.le_of_ble_eq_true rfl⟩, List.forall_mem_cons.mpr ⟨⟨c212_1_v, Nat.le_of_ble_eq_true rfl⟩, fun _ h => (by cases h)⟩⟩⟩⟩⟩⟩⟩) ext_nil (fun q h => (by cases h)) (enF c214_0_k) (List.forall_mem_cons.mpr ⟨⟨_, ptF c214_0_k0⟩, List.forall_mem_cons.mpr ⟨⟨_, ptF c214_0_k1⟩, List.forall_mem_cons.mpr ⟨⟨_, ptF c214_0_k2⟩, List.forall_mem_cons.mpr ⟨⟨_, ptF c214_0_k3⟩, List.forall_mem_cons.mpr ⟨⟨_, ptF c214_0_k4⟩, List.forall_mem_cons.mpr ⟨⟨_, ptF c214_0_k5⟩, List.forall_mem_cons.mpr ⟨⟨_, ptF c214_0_k6⟩, List.forall_mem_cons.mpr ⟨⟨_, ptF c214_0_k7⟩, List.forall_mem_cons.mpr ⟨⟨_, ptF c214_0_k8⟩, List.forall_mem_cons.mpr ⟨⟨_, ptF c214_0_k9⟩, List.forall_mem_cons.mpr ⟨⟨_, ptF c214_0_k10⟩, List.forall_mem_cons.mpr ⟨⟨_, ptF c214_0_k11⟩, fun _ h => (by cases h)⟩⟩⟩⟩⟩⟩⟩⟩⟩⟩⟩⟩)

noncomputable def c116_0 : Ct := (116, 2, (1, [qtA 0], [], [qvR 0, qvS 0], zh43, []),
  [((1, [(0, (.negSucc 2147483647), (.negSucc 1000))], [], [qvK (.negSucc 1)], zh43, []), 0, 0),
   ((1, [qtN 0 1001 2147483647], [], [qvK (.negSucc 1)], zh43, []), 0, 0),
   ((1, [(0, (.negSucc 999), (.ofNat 1000))], [], [qvK (.ofNat 1)], [zc23, qoC 1 [qvK (.ofNat 3), qvR 2, qvR 13, qvR 19, qvR 20, qvK (.ofNat 3), qvK (.ofNat 5), qvR 21, qvK (.ofNat 100), qvK (.ofNat 0), qvR 26, qvR 27, qvR 28, qvR 32, qvK (.ofNat 1), qvR 38, qvR 39, qvR 40], qrC 4 [some 3, some 8], zc16, qiC 0 [qgN 60 0 0], qiC 0 [qgN 60 0 0], qiC 0 [qgN 60 0 0], qiC 0 [qgN 60 0 0], zc17, qiC 0 [qgN 60 0 0], qiC 0 [qgN 60 0 0], qiC 0 [qgN 60 0 0], qiC 0 [qgN 60 0 0], zc18, qiC 0 [qgN 6 0 0], qiC 0 [qgN 6 0 0], qiC 0 [qgN 8 0 0], qiC 0 [qgN 8 0 0], qiC 0 [qgN 8 0 0], qiC 0 [qgN 8 0 0], qiC 0 [qgN 8 0 0], zc19, qiC 0 [qgN 6 0 0], qiC 0 [qgN 6 0 0], qiC 0 [qgN 6 0 0], qiC 0 [qgN 6 0 0], zc9, zc10, zc20, qiC 2 [qgN 60 0 0], qiC 0 [qgN 60 0 0], qjC 1 1000000060, zc21, qiC 0 [qgN 8 0 0], qiC 0 [qgN 8 0 0], qiC 0 [qgN 8 0 0], qiC 0 [qgN 8 0 0], qiC 0 [qgN 8 0 0], qiC 0 [qgN 0 0 0, qgS 0, qgN 9 0 0], qiC 0 [qgN 4 0 0], qiC 0 [qgN 4 0 0], zc37, zc38, zc39, qiC 0 [qgN 12 0 0], zc40, qiC 0 [qgN 12 0 0], zc41, qiC 0 [qgN 12 0 0], zc24, qiC 0 [qgN 12 0 0], zc42, qiC 0 [qgN 32 0 0], qiC 0 [qgN 8 0 0], qiC 0 [qgN 8 0 0], qiC 0 [qgN 2 0 0], qiC 0 [qgN 6 0 0], zc26, qjC 1 1000000006, qjC 1 1000000004, qrC 6 [none, none], qrC 7 [none, none]], []), 0, 0)])
noncomputable def c116_0_e : List Ct := [c12_13]
noncomputable def c116_0_pts : List PE := []
set_option maxRecDepth 100000 in
theorem c116_0_k : enCtF c116_0 c116_0_e (pkP (c116_0_pts ++ []) []) (none) noH 3000 = true := by decide +kernel
set_option maxRecDepth 100000 in
theorem c116_0_v : ValidC PPk c116_0 := ct_ok fpk noH_ok (d := 1) (ext := []) (pts := c116_0_pts) (env := c116_0_e) rfl (List.forall_mem_cons.mpr ⟨⟨c12_13_v, Nat.le_of_ble_eq_true rfl⟩, fun _ h => (by cases h)⟩) ext_nil (fun q h => (by cases h)) (enF c116_0_k) (fun _ h => (by cases h))

noncomputable def c215_0 : Ct := (215, 2, (1, [qtA 0], [], [qvR 0, qvS 0], zh29, []),
  [((1, [(0, (.negSucc 2147483647), (.negSucc 1000))], [], [qvK (.negSucc 1)], zh29, []), 0, 0),
   ((1, [qtN 0 1001 2147483647], [], [qvK (.negSucc 1)], zh29, []), 0, 0),
   ((1, [(0, (.negSucc 999), (.ofNat 1000))], [], [qvK (.ofNat 1)], [zc27, qiC 0 [qgN 0 0 0, .inl ((.ofNat 3), []), qgN 6 0 0, .inl ((.ofNat 1), []), qgN 0 0 0, .inl ((.ofNat 3), []), qgN 0 0 0, .inl ((.ofNat 5), []), qgN 7 0 0, .inl ((.ofNat 100), []), qgN 2 0 0, .inl ((.negSucc 0), []), qgN 21 0 0, .inl ((.ofNat 1), []), qgN 39 0 0, .inl ((.ofNat 1), []), qgN 39 0 0, .inl ((.ofNat 1), []), qgN 39 0 0, .inl ((.ofNat 1), []), qgN 621 0 0, .inl ((.negSucc 99), []), qgN 0 0 0, .inl ((.ofNat 100), []), qgN 0 0 0, .inl ((.negSucc 99), []), qgN 0 0 0, .inl ((.ofNat 100), []), qgN 0 0 0, .inl ((.negSucc 99), []), qgN 0 0 0, .inl ((.ofNat 100), []), qgN 0 0 0, .inl ((.negSucc 99), []), qgN 0 0 0, .inl ((.ofNat 100), []), qgN 100 0 0, qgS 0, qgN 17 0 0], qiC 0 [qgN 1820 0 0], qiC 3 [qgN 2 0 0], qiC 0 [qgN 70 0 0], qiC 0 [qgN 70 0 0], qiC 0 [qgN 70 0 0], qjC 1 1000000070, qjC 1 1000000008, qiC 0 [qgN 910 0 0], qiC 0 [qgN 910 0 0], qiC 0 [qgN 20 0 0], qiC 0 [qgN 20 0 0], qiC 0 [qgN 910 0 0], qjC 1 1000000004], []), 0, 0)])
noncomputable def c215_0_e : List Ct := [c145_13]
noncomputable def c215_0_pts : List PE := []
set_option maxRecDepth 100000 in
theorem c215_0_k : enCtF c215_0 c215_0_e (pkP (c215_0_pts ++ []) []) (none) noH 3000 = true := by decide +kernel
set_option maxRecDepth 100000 in
theorem c215_0_v : ValidC PPk c215_0 := ct_ok fpk noH_ok (d := 1) (ext := []) (pts := c215_0_pts) (env := c215_0_e) rfl (List.forall_mem_cons.mpr ⟨⟨c145_13_v, Nat.le_of_ble_eq_true rfl⟩, fun _ h => (by cases h)⟩) ext_nil (fun q h => (by cases h)) (enF c215_0_k) (fun _ h => (by cases h))

noncomputable def c117_0 : Ct := (117, 1, (0, [], [], [qvR 0], zh43, []),
  [((0, [], [], [qvK (.ofNat 0)], zh43, []), 0, 0)])
noncomputable def c117_0_e : List Ct := []
noncomputable def c117_0_pts : List PE := []
set_option maxRecDepth 100000 in
theorem c117_0_k : enCtF c117_0 c117_0_e (pkP (c117_0_pts ++ []) []) (none) noH 3000 = true := by decide +kernel
set_option maxRecDepth 100000 in
theorem c117_0_v : ValidC PPk c117_0 := ct_ok fpk noH_ok (d := 0) (ext := []) (pts := c117_0_pts) (env := c117_0_e) rfl (fun _ h => (by cases h)) ext_nil (fun q h => (by cases h)) (enF c117_0_k) (fun _ h => (by cases h))

noncomputable def c216_0 : Ct := (216, 1, (0, [], [], [qvR 0], zh29, []),
  [((0, [], [], [qvK (.ofNat 0)], zh29, []), 0, 0)])
noncomputable def c216_0_e : List Ct := []
noncomputable def c216_0_pts : List PE := []
set_option maxRecDepth 100000 in
theorem c216_0_k : enCtF c216_0 c216_0_e (pkP (c216_0_pts ++ []) []) (none) noH 3000 = true := by decide +kernel
set_option maxRecDepth 100000 in
theorem c216_0_v : ValidC PPk c216_0 := ct_ok fpk noH_ok (d := 0) (ext := []) (pts := c216_0_pts) (env := c216_0_e) rfl (fun _ h => (by cases h)) ext_nil (fun q h => (by cases h)) (enF c216_0_k) (fun _ h => (by cases h))

noncomputable def zh559 : AH := [zc131, zc15, qrC 4 [some 3, some 8], zc16, qkC 100 0, qkC 100 1, qkC 100 2, qkC 100 3, zc17, qkC 100 4, qkC 100 5, qkC 100 6, qkC 100 7, zc18, qkC 100 8, qkC 100 9, qkC 100 10, qkC 100 11, qkC 100 12, qkC 100 13, qkC 100 14, zc19, qkC 100 15, qkC 100 16, qkC 100 17, qkC 100 18, qkC 100 19, qkC 100 20, zc20, qkC 102 21, qkC 100 22, qjC 1 1000000060, zc21, qkC 100 23, qkC 100 24, qkC 100 25, qkC 100 26, qkC 100 27, qkC 100 28, qkC 100 29, qkC 100 30, zc130, qjC 1 1000000006, qjC 1 1000000004, zc241, zc162, zc163, qkC 100 33, zc164, qkC 100 34, zc165, qkC 100 35, zc132, qkC 100 36, zc166, qkC 100 37, qkC 100 38, qkC 100 39, qkC 100 40, qkC 100 41, qoC 7 [qvR 61, qvK (.ofNat 7), qvR 70, qvR 74, qvR 75, qvK (.ofNat 0), qvK (.ofNat 0), qvK (.ofNat 0), qvS 42, qvK (.ofNat 0), qvK (.ofNat 0), qvS 43, qvK (.ofNat 0), qvK (.ofNat 0), qvK (.ofNat 0), qvK (.ofNat 0), qvK (.negSucc 0)], zc168, zc169, qkC 100 44, zc170, qkC 100 45, zc171, qkC 100 46, zc133, qkC 100 47, zc172, qkC 100 48, qkC 100 49, qkC 100 50, qkC 100 51, qkC 100 52, qkC 100 53, qkC 100 54]
noncomputable def c120_0 : Ct := (120, 1, (55, [qtA 31, qtN 32 0 1001, qtA 42, qtN 43 0 1001], [], [qvR 0, qvK (.ofNat 0)], zh559, []),
  [((55, [], [], [qvK (.ofNat 1)], zh559, []), 0, 0)])
noncomputable def c120_0_e : List Ct := []
noncomputable def c120_0_p0 : PE := (2, [0, 1, 2], (55, [qtA 31, qtN 32 0 1001, qtA 42, qtN 43 0 1001], [], [qvR 0, qvK (.ofNat 0), qvK (.ofNat 0)], zh559, []), symsL 55 0, some ((.ofNat 1), []), 0, 0)
noncomputable def c120_0_pts : List PE := [c120_0_p0]
set_option maxRecDepth 100000 in
theorem c120_0_k : enCtF c120_0 c120_0_e (pkP (c120_0_pts ++ []) [0]) (none) (noF, noM, 4, 0, 55) 3000 = true := by decide +kernel
set_option maxRecDepth 100000 in
theorem c120_0_k0 : ptCtF c120_0 c120_0_e (pkP (c120_0_pts ++ []) []) (noF, noM, 4, 0, 55) 3000 c120_0_p0 = true := by decide +kernel
set_option maxRecDepth 100000 in
theorem c120_0_v : ValidC PPk c120_0 := ct_ok fpk ⟨noF_ok, noM_ok⟩ (d := 0) (ext := []) (pts := c120_0_pts) (env := c120_0_e) rfl (fun _ h => (by cases h)) ext_nil (fun q h => (by cases h)) (enF c120_0_k) (List.forall_mem_cons.mpr ⟨⟨_, ptF c120_0_k0⟩, fun _ h => (by cases h)⟩)

noncomputable def zc560 : AC := qoC 7 [qvR 79, qvK (.ofNat 7), qvR 88, qvR 92, qvR 93, qvK (.ofNat 0), qvK (.ofNat 0), qvK (.ofNat 0), qvS 37, qvK (.ofNat 0), qvK (.ofNat 0), qvS 38, qvK (.ofNat 0), qvK (.ofNat 0), qvK (.ofNat 0), qvK (.ofNat 0), qvK (.negSucc 0)]
noncomputable def c119_0 : Ct := (119, 4, (39, [qtA 31, qtN 32 0 1001, qtA 33, qtN 34 0 1001, qtA 37, qtN 38 0 1001], [], [qvR 0, qvR 78], [zc131, zc15, qrC 4 [some 3, some 8], zc16, qkC 100 0, qkC 100 1, qkC 100 2, qkC 100 3, zc17, qkC 100 4, qkC 100 5, qkC 100 6, qkC 100 7, zc18, qkC 100 8, qkC 100 9, qkC 100 10, qkC 100 11, qkC 100 12, qkC 100 13, qkC 100 14, zc19, qkC 100 15, qkC 100 16, qkC 100 17, qkC 100 18, qkC 100 19, qkC 100 20, zc20, qkC 102 21, qkC 100 22, qjC 1 1000000060, zc21, qkC 100 23, qkC 100 24, qkC 100 25, qkC 100 26, qkC 100 27, qkC 100 28, qkC 100 29, qkC 100 30, zc130, qjC 1 1000000006, qjC 1 1000000004, zc241, zc162, zc163, qiC 0 [qgN 12 0 0], zc164, qiC 0 [qgN 12 0 0], zc165, qiC 0 [qgN 12 0 0], zc132, qiC 0 [qgN 12 0 0], zc166, qiC 0 [qgN 32 0 0], qiC 0 [qgN 8 0 0], qiC 0 [qgN 8 0 0], qiC 0 [qgN 2 0 0], qiC 0 [qgN 6 0 0], qoC 7 [qvR 61, qvK (.ofNat 7), qvR 70, qvR 74, qvR 75, qvK (.ofNat 0), qvK (.ofNat 0), qvK (.ofNat 0), qvS 33, qvK (.ofNat 0), qvK (.ofNat 0), qvS 34, qvK (.ofNat 0), qvK (.ofNat 0), qvK (.ofNat 0), qvK (.ofNat 0), qvK (.negSucc 0)], zc168, zc169, qiC 0 [qgN 12 0 0], zc170, qiC 0 [qgN 12 0 0], zc171, qiC 0 [qgN 12 0 0], zc133, qiC 0 [qgN 12 0 0], zc172, qiC 0 [qgN 32 0 0], qiC 0 [qgN 8 0 0], qiC 0 [qgN 8 0 0], qiC 0 [qgN 2 0 0], qiC 0 [qgN 6 0 0], qkC 100 35, qkC 100 36, zc560, zc174, zc175, qiC 0 [qgN 12 0 0], zc176, qiC 0 [qgN 12 0 0], zc177, qiC 0 [qgN 12 0 0], zc178, qiC 0 [qgN 12 0 0], zc179, qiC 0 [qgN 32 0 0], qiC 0 [qgN 8 0 0], qiC 0 [qgN 8 0 0], qiC 0 [qgN 2 0 0], qiC 0 [qgN 6 0 0]], []),
  [((39, [], [], [qvK (.ofNat 1)], [zc131, zc15, qrC 4 [some 3, some 8], zc16, qkC 100 0, qkC 100 1, qkC 100 2, qkC 100 3, zc17, qkC 100 4, qkC 100 5, qkC 100 6, qkC 100 7, zc18, qkC 100 8, qkC 100 9, qkC 100 10, qkC 100 11, qkC 100 12, qkC 100 13, qkC 100 14, zc19, qkC 100 15, qkC 100 16, qkC 100 17, qkC 100 18, qkC 100 19, qkC 100 20, zc20, qkC 102 21, qkC 100 22, qjC 1 1000000060, zc21, qkC 100 23, qkC 100 24, qkC 100 25, qkC 100 26, qkC 100 27, qkC 100 28, qkC 100 29, qkC 100 30, zc130, qjC 1 1000000006, qjC 1 1000000004, qoC 7 [qvR 45, qvK (.ofNat 7), qvR 54, qvR 58, qvR 59, qvK (.ofNat 0), qvK (.ofNat 0), qvK (.ofNat 0), qvS 37, qvK (.ofNat 0), qvK (.ofNat 0), qvS 38, qvK (.ofNat 0), qvK (.ofNat 0), qvK (.ofNat 0), qvK (.ofNat 0), qvK (.negSucc 0)], zc162, zc163, qiC 0 [qgN 12 0 0], zc164, qiC 0 [qgN 12 0 0], zc165, qiC 0 [qgN 12 0 0], zc132, qiC 0 [qgN 12 0 0], zc166, qiC 0 [qgN 32 0 0], qiC 0 [qgN 8 0 0], qiC 0 [qgN 8 0 0], qiC 0 [qgN 2 0 0], qiC 0 [qgN 6 0 0], qoC 7 [qvR 61, qvK (.ofNat 7), qvR 70, qvR 74, qvR 75, qvK (.ofNat 0), qvK (.ofNat 0), qvK (.ofNat 0), qvS 37, qvK (.ofNat 0), qvK (.ofNat 0), qvS 38, qvK (.ofNat 0), qvK (.ofNat 0), qvK (.ofNat 0), qvK (.ofNat 0), qvK (.negSucc 0)], zc168, zc169, qiC 0 [qgN 12 0 0], zc170, qiC 0 [qgN 12 0 0], zc171, qiC 0 [qgN 12 0 0], zc133, qiC 0 [qgN 12 0 0], zc172, qiC 0 [qgN 32 0 0], qiC 0 [qgN 8 0 0], qiC 0 [qgN 8 0 0], qiC 0 [qgN 2 0 0], qiC 0 [qgN 6 0 0], qkC 100 35, qkC 100 36, zc560, zc174, zc175, qiC 0 [qgN 12 0 0], zc176, qiC 0 [qgN 12 0 0], zc177, qiC 0 [qgN 12 0 0], zc178, qiC 0 [qgN 12 0 0], zc179, qiC 0 [qgN 32 0 0], qiC 0 [qgN 8 0 0], qiC 0 [qgN 8 0 0], qiC 0 [qgN 2 0 0], qiC 0 [qgN 6 0 0]], []), 0, 0)])
noncomputable def c119_0_e : List Ct := [c105_0, c120_0]
noncomputable def c119_0_pts : List PE := []
set_option maxRecDepth 100000 in
theorem c119_0_k : enCtF c119_0 c119_0_e (pkP (c119_0_pts ++ []) []) (none) noH 3000 = true := by decide +kernel
set_option maxRecDepth 100000 in
theorem c119_0_v : ValidC PPk c119_0 := ct_ok fpk noH_ok (d := 3) (ext := []) (pts := c119_0_pts) (env := c119_0_e) rfl (List.forall_mem_cons.mpr ⟨⟨c105_0_v, Nat.le_of_ble_eq_true rfl⟩, List.forall_mem_cons.mpr ⟨⟨c120_0_v, Nat.le_of_ble_eq_true rfl⟩, fun _ h => (by cases h)⟩⟩) ext_nil (fun q h => (by cases h)) (enF c119_0_k) (fun _ h => (by cases h))

noncomputable def c118_0 : Ct := (118, 5, (0, [], [], [qvR 0], zh43, []),
  [((0, [], [], [qvK (.negSucc 4)], zh427, []), 35, 347)])
noncomputable def c118_0_e : List Ct := [c102_0, c119_0]
noncomputable def c118_0_pts : List PE := []
set_option maxRecDepth 100000 in
theorem c118_0_k : enCtF c118_0 c118_0_e (pkP (c118_0_pts ++ []) []) (none) noH 3000 = true := by decide +kernel
set_option maxRecDepth 100000 in
theorem c118_0_v : ValidC PPk c118_0 := ct_ok fpk noH_ok (d := 4) (ext := []) (pts := c118_0_pts) (env := c118_0_e) rfl (List.forall_mem_cons.mpr ⟨⟨c102_0_v, Nat.le_of_ble_eq_true rfl⟩, List.forall_mem_cons.mpr ⟨⟨c119_0_v, Nat.le_of_ble_eq_true rfl⟩, fun _ h => (by cases h)⟩⟩) ext_nil (fun q h => (by cases h)) (enF c118_0_k) (fun _ h => (by cases h))

noncomputable def zh561 : AH := [zc27, zc62, qkC 100 0, qkC 103 1, qkC 100 2, qkC 100 3, qkC 100 4, qjC 1 1000000070, qjC 1 1000000008, qkC 100 5, qkC 100 6, qkC 100 7, qkC 100 8, qkC 100 9, qjC 1 1000000004]
noncomputable def c218_0 : Ct := (218, 1, (10, [], [], [qvR 0, qvK (.ofNat 0)], zh561, []),
  [((10, [], [], [qvK (.ofNat 1)], zh561, []), 0, 0)])
noncomputable def c218_0_e : List Ct := []
noncomputable def c218_0_p0 : PE := (4, [0, 1, 2, 3], (10, [], [], [qvR 0, qvK (.ofNat 0), qvK (.ofNat 1), qvK (.ofNat 0)], zh561, []), symsL 10 0, some ((.ofNat 1), []), 0, 0)
noncomputable def c218_0_pts : List PE := [c218_0_p0]
set_option maxRecDepth 100000 in
theorem c218_0_k : enCtF c218_0 c218_0_e (pkP (c218_0_pts ++ []) [0]) (none) (noF, noM, 16, 0, 10) 3000 = true := by decide +kernel
set_option maxRecDepth 100000 in
theorem c218_0_k0 : ptCtF c218_0 c218_0_e (pkP (c218_0_pts ++ []) []) (noF, noM, 16, 0, 10) 3000 c218_0_p0 = true := by decide +kernel
set_option maxRecDepth 100000 in
theorem c218_0_v : ValidC PPk c218_0 := ct_ok fpk ⟨noF_ok, noM_ok⟩ (d := 0) (ext := []) (pts := c218_0_pts) (env := c218_0_e) rfl (fun _ h => (by cases h)) ext_nil (fun q h => (by cases h)) (enF c218_0_k) (List.forall_mem_cons.mpr ⟨⟨_, ptF c218_0_k0⟩, fun _ h => (by cases h)⟩)

noncomputable def c217_0 : Ct := (217, 2, (0, [], [], [qvR 0], zh29, []),
  [((0, [], [], [qvK (.negSucc 4)], [zc27, zc442, qiC 0 [qgN 1820 0 0], qiC 3 [qgN 2 0 0], qiC 0 [qgN 70 0 0], qiC 0 [qgN 70 0 0], qiC 0 [qgN 70 0 0], qjC 1 1000000070, qjC 1 1000000008, zc442, qiC 0 [qgN 910 0 0], qiC 0 [qgN 20 0 0], qiC 0 [qgN 20 0 0], qiC 0 [qgN 910 0 0], qjC 1 1000000004], []), 0, 0)])
noncomputable def c217_0_e : List Ct := [c209_0, c211_0, c218_0]
noncomputable def c217_0_pts : List PE := []
set_option maxRecDepth 100000 in
theorem c217_0_k : enCtF c217_0 c217_0_e (pkP (c217_0_pts ++ []) []) (none) noH 3000 = true := by decide +kernel
set_option maxRecDepth 100000 in
theorem c217_0_v : ValidC PPk c217_0 := ct_ok fpk noH_ok (d := 1) (ext := []) (pts := c217_0_pts) (env := c217_0_e) rfl (List.forall_mem_cons.mpr ⟨⟨c209_0_v, Nat.le_of_ble_eq_true rfl⟩, List.forall_mem_cons.mpr ⟨⟨c211_0_v, Nat.le_of_ble_eq_true rfl⟩, List.forall_mem_cons.mpr ⟨⟨c218_0_v, Nat.le_of_ble_eq_true rfl⟩, fun _ h => (by cases h)⟩⟩⟩) ext_nil (fun q h => (by cases h)) (enF c217_0_k) (fun _ h => (by cases h))

noncomputable def zh562 : AH := [zc1, qkC 100 1, qkC 100 2, qkC 100 3, qkC 100 4]
noncomputable def c124_0 : Ct := (124, 1, (5, [qtA 0], [], [qvR 0, qvS 0], zh562, []),
  [((5, [], [], [qvK (.ofNat 0)], zh562, []), 0, 0)])
noncomputable def c124_0_e : List Ct := []
noncomputable def c124_0_p0 : PE := (4, [0, 1, 2, 3], (5, [qtA 0], [], [qvR 0, qvS 0, qvK (.ofNat 0), qvK (.ofNat 0)], zh562, []), symsL 5 0, some ((.ofNat 1), []), 0, 0)
noncomputable def c124_0_pts : List PE := [c124_0_p0]
set_option maxRecDepth 100000 in
theorem c124_0_k : enCtF c124_0 c124_0_e (pkP (c124_0_pts ++ []) [0]) (none) (noF, noM, 16, 0, 5) 3000 = true := by decide +kernel
set_option maxRecDepth 100000 in
theorem c124_0_k0 : ptCtF c124_0 c124_0_e (pkP (c124_0_pts ++ []) []) (noF, noM, 16, 0, 5) 3000 c124_0_p0 = true := by decide +kernel
set_option maxRecDepth 100000 in
theorem c124_0_v : ValidC PPk c124_0 := ct_ok fpk ⟨noF_ok, noM_ok⟩ (d := 0) (ext := []) (pts := c124_0_pts) (env := c124_0_e) rfl (fun _ h => (by cases h)) ext_nil (fun q h => (by cases h)) (enF c124_0_k) (List.forall_mem_cons.mpr ⟨⟨_, ptF c124_0_k0⟩, fun _ h => (by cases h)⟩)

noncomputable def c123_0 : Ct := (123, 2, (2, [qtA 0, qtA 1], [], [qvR 0, qvS 0, qvS 1], zh43, []),
  [((2, [(0, (.negSucc 2147483647), (.negSucc 0))], [], [qvK (.negSucc 1999999999)], zh43, []), 0, 0),
   ((2, [qtN 0 2 2147483647], [], [qvK (.negSucc 1999999999)], zh43, []), 0, 0),
   ((2, [qtN 0 0 1, (1, (.negSucc 2147483647), (.negSucc 0))], [], [qvK (.negSucc 1999999999)], zh43, []), 0, 0),
   ((2, [qtN 0 0 1, qtN 1 3 2147483647], [], [qvK (.negSucc 1999999999)], zh43, []), 0, 0),
   ((2, [qtN 0 0 1, qtN 1 0 2], [], [qvK (.negSucc 2099999999)], zh43, []), 0, 0)])
noncomputable def c123_0_e : List Ct := [c124_0, c12_24, c12_4]
noncomputable def c123_0_pts : List PE := []
set_option maxRecDepth 100000 in
theorem c123_0_k : enCtF c123_0 c123_0_e (pkP (c123_0_pts ++ []) []) (none) noH 3000 = true := by decide +kernel
set_option maxRecDepth 100000 in
theorem c123_0_v : ValidC PPk c123_0 := ct_ok fpk noH_ok (d := 1) (ext := []) (pts := c123_0_pts) (env := c123_0_e) rfl (List.forall_mem_cons.mpr ⟨⟨c124_0_v, Nat.le_of_ble_eq_true rfl⟩, List.forall_mem_cons.mpr ⟨⟨c12_24_v, Nat.le_of_ble_eq_true rfl⟩, List.forall_mem_cons.mpr ⟨⟨c12_4_v, Nat.le_of_ble_eq_true rfl⟩, fun _ h => (by cases h)⟩⟩⟩) ext_nil (fun q h => (by cases h)) (enF c123_0_k) (fun _ h => (by cases h))

noncomputable def c220_0 : Ct := (220, 1, (11, [qtA 0], [], [qvR 0, qvS 0], zh128, []),
  [((11, [], [], [], zh128, []), 0, 0)])
noncomputable def c220_0_e : List Ct := []
noncomputable def c220_0_p0 : PE := (7, [0, 1, 2], (11, [qtA 0], [], [qvR 0, qvS 0, qvK (.ofNat 1)], zh128, []), symsL 11 0, some ((.ofNat 1), []), 0, 0)
noncomputable def c220_0_pts : List PE := [c220_0_p0]
set_option maxRecDepth 100000 in
theorem c220_0_k : enCtF c220_0 c220_0_e (pkP (c220_0_pts ++ []) [0]) (none) (noF, noM, 128, 0, 11) 3000 = true := by decide +kernel
set_option maxRecDepth 100000 in
theorem c220_0_k0 : ptCtF c220_0 c220_0_e (pkP (c220_0_pts ++ []) []) (noF, noM, 128, 0, 11) 3000 c220_0_p0 = true := by decide +kernel
set_option maxRecDepth 100000 in
theorem c220_0_v : ValidC PPk c220_0 := ct_ok fpk ⟨noF_ok, noM_ok⟩ (d := 0) (ext := []) (pts := c220_0_pts) (env := c220_0_e) rfl (fun _ h => (by cases h)) ext_nil (fun q h => (by cases h)) (enF c220_0_k) (List.forall_mem_cons.mpr ⟨⟨_, ptF c220_0_k0⟩, fun _ h => (by cases h)⟩)

noncomputable def c219_0 : Ct := (219, 2, (2, [qtA 0, qtA 1], [], [qvR 0, qvS 0, qvS 1], zh29, []),
  [((2, [(0, (.negSucc 2147483647), (.negSucc 0))], [], [qvK (.negSucc 1999999999)], zh29, []), 0, 0),
   ((2, [qtN 0 2 2147483647], [], [qvK (.negSucc 1999999999)], zh29, []), 0, 0),
   ((2, [qtN 0 0 1, (1, (.negSucc 2147483647), (.negSucc 0))], [], [qvK (.negSucc 1999999999)], zh29, []), 0, 0),
   ((2, [qtN 0 0 1, qtN 1 3 2147483647], [], [qvK (.negSucc 1999999999)], zh29, []), 0, 0),
   ((2, [qtN 0 0 1, qtN 1 0 2], [], [qvK (.negSucc 2099999999)], zh129, []), 0, 0)])
noncomputable def c219_0_e : List Ct := [c145_24, c145_4, c220_0]
noncomputable def c219_0_pts : List PE := []
set_option maxRecDepth 100000 in
theorem c219_0_k : enCtF c219_0 c219_0_e (pkP (c219_0_pts ++ []) []) (none) noH 3000 = true := by decide +kernel
set_option maxRecDepth 100000 in
theorem c219_0_v : ValidC PPk c219_0 := ct_ok fpk noH_ok (d := 1) (ext := []) (pts := c219_0_pts) (env := c219_0_e) rfl (List.forall_mem_cons.mpr ⟨⟨c145_24_v, Nat.le_of_ble_eq_true rfl⟩, List.forall_mem_cons.mpr ⟨⟨c145_4_v, Nat.le_of_ble_eq_true rfl⟩, List.forall_mem_cons.mpr ⟨⟨c220_0_v, Nat.le_of_ble_eq_true rfl⟩, fun _ h => (by cases h)⟩⟩⟩) ext_nil (fun q h => (by cases h)) (enF c219_0_k) (fun _ h => (by cases h))

noncomputable def zh563 : AH := [zc23, zc15, qrC 4 [some 3, some 8], zc16, qiC 0 [qgN 60 0 0], qiC 0 [qgN 60 0 0], qiC 0 [qgN 60 0 0], qiC 0 [qgN 60 0 0], zc17, qiC 0 [qgN 60 0 0], qiC 0 [qgN 60 0 0], qiC 0 [qgN 60 0 0], qiC 0 [qgN 60 0 0], zc18, qiC 0 [qgN 6 0 0], qiC 0 [qgN 6 0 0], qiC 0 [qgN 8 0 0], qiC 0 [qgN 8 0 0], qiC 0 [qgN 8 0 0], qiC 0 [qgN 8 0 0], qiC 0 [qgN 8 0 0], zc19, qiC 0 [qgN 6 0 0], qiC 0 [qgN 6 0 0], qiC 0 [qgN 6 0 0], qiC 0 [qgN 6 0 0], zc64, qiC 0 [qgN 4 100 100], zc20, qiC 2 [qgN 60 0 0], qiC 0 [qgN 60 0 0], qjC 1 1000000060, zc21, qiC 0 [qgN 8 0 0], qiC 0 [qgN 8 0 0], qiC 0 [qgN 8 0 0], qiC 0 [qgN 8 0 0], qiC 0 [qgN 8 0 0], qiC 0 [qgN 10 0 0], qiC 0 [qgA 4], qiC 0 [qgA 4], zc65, zc38, zc39, qiC 0 [qgN 12 0 0], zc40, qiC 0 [qgN 12 0 0], zc41, qiC 0 [qgN 12 0 0], zc24, qiC 0 [qgN 12 0 0], zc42, qiC 0 [qgN 32 0 0], qiC 0 [qgN 8 0 0], qiC 0 [qgN 8 0 0], qiC 0 [qgN 2 0 0], qiC 0 [qgN 6 0 0], zc26, qjC 1 1000000006, qjC 1 1000000004, qrC 6 [none, none], qrC 7 [none, none]]
noncomputable def c128_0 : Ct := (128, 3, (5, [qtA 0, qtA 1, qtA 2, qtA 3, qtN 4 0 1001], [], [qvR 0, qvS 0, qvS 1, qvS 2], zh563, []),
  [((5, [(0, (.negSucc 2147483647), (.negSucc 0))], [], [qvK (.negSucc 1)], zh563, []), 0, 0),
   ((5, [qtN 0 3 2147483647], [], [qvK (.negSucc 1)], zh563, []), 0, 0),
   ((5, [qtN 0 0 2, (1, (.negSucc 2147483647), (.negSucc 1000000))], [], [qvK (.negSucc 1)], zh563, []), 0, 0),
   ((5, [qtN 0 0 2, qtN 1 1000001 2147483647], [], [qvK (.negSucc 1)], zh563, []), 0, 0),
   ((5, [qtN 0 0 2, (1, (.negSucc 999999), (.ofNat 1000000)), (2, (.negSucc 2147483647), (.negSucc 1000))], [], [qvK (.negSucc 1)], zh563, []), 0, 0),
   ((5, [qtN 0 0 2, (1, (.negSucc 999999), (.ofNat 1000000)), qtN 2 1001 2147483647], [], [qvK (.negSucc 1)], zh563, []), 0, 0),
   ((5, [qtN 0 0 2, (1, (.negSucc 999999), (.ofNat 1000000)), (2, (.negSucc 999), (.ofNat 1000))], [], [qvK (.ofNat 1)], zh563, []), 0, 0)])
noncomputable def c128_0_e : List Ct := [c12_13, c12_17, c90_0]
noncomputable def c128_0_pts : List PE := []
set_option maxRecDepth 100000 in
theorem c128_0_k : enCtF c128_0 c128_0_e (pkP (c128_0_pts ++ []) []) (none) noH 3000 = true := by decide +kernel
set_option maxRecDepth 100000 in
theorem c128_0_v : ValidC PPk c128_0 := ct_ok fpk noH_ok (d := 2) (ext := []) (pts := c128_0_pts) (env := c128_0_e) rfl (List.forall_mem_cons.mpr ⟨⟨c12_13_v, Nat.le_of_ble_eq_true rfl⟩, List.forall_mem_cons.mpr ⟨⟨c12_17_v, Nat.le_of_ble_eq_true rfl⟩, List.forall_mem_cons.mpr ⟨⟨c90_0_v, Nat.le_of_ble_eq_true rfl⟩, fun _ h => (by cases h)⟩⟩⟩) ext_nil (fun q h => (by cases h)) (enF c128_0_k) (fun _ h => (by cases h))

noncomputable def zh564 : AH := [zc27, qiC 0 [qgN 1 3 3, qgN 7 0 0, qgN 1 3 3, qgN 1 5 5, qgN 4 0 0, qgS 1, qgN 2 0 0, qgN 1 100 100, qgN 1 0 0, qgS 2, .inr (1, (.negSucc 0), (.negSucc 0)), qgN 9 0 0, qgS 3, qgS 4, qgS 5, qgS 6, qgS 7, qgS 8, qgS 9, qgS 10, qgS 11, qgS 12, qgS 13, qgS 14, qgN 1 1 1, qgN 27 0 0, qgS 15, qgS 16, qgS 17, qgS 18, qgS 19, qgS 20, qgS 21, qgS 22, qgS 23, qgS 24, qgS 25, qgS 26, qgN 1 1 1, qgN 27 0 0, qgS 27, qgS 28, qgS 29, qgS 30, qgS 31, qgS 32, qgS 33, qgS 34, qgS 35, qgS 36, qgS 37, qgS 38, qgN 1 1 1, qgN 27 0 0, qgS 39, qgS 40, qgS 41, qgS 42, qgS 43, qgS 44, qgS 45, qgS 46, qgS 47, qgS 48, qgS 49, qgS 50, qgN 1 1 1, qgN 621 0 0, .inr (1, (.negSucc 99), (.negSucc 99)), qgN 1 100 100, .inr (1, (.negSucc 99), (.negSucc 99)), qgN 1 100 100, .inr (1, (.negSucc 99), (.negSucc 99)), qgN 1 100 100, .inr (1, (.negSucc 99), (.negSucc 99)), qgN 1 100 100, qgN 110 0 0, qgA 8], qkC 100 51, qkC 103 52, qkC 100 53, qkC 100 54, qkC 100 55, qjC 1 1000000070, qjC 1 1000000008, qkC 100 56, qkC 100 57, qkC 100 58, qkC 100 59, qkC 100 60, qjC 1 1000000004]
noncomputable def c173_1 : Ct := (173, 2, (61, [qtA 0, qtN 1 0 1001, qtA 2, qtA 3, qtA 4, qtA 5, qtA 6, qtA 7, qtA 8, qtA 9, qtA 10, qtA 11, qtA 12, qtA 13, qtA 14, qtA 15, qtA 16, qtA 17, qtA 18, qtA 19, qtA 20, qtA 21, qtA 22, qtA 23, qtA 24, qtA 25, qtA 26, qtA 27, qtA 28, qtA 29, qtA 30, qtA 31, qtA 32, qtA 33, qtA 34, qtA 35, qtA 36, qtA 37, qtA 38, qtA 39, qtA 40, qtA 41, qtA 42, qtA 43, qtA 44, qtA 45, qtA 46, qtA 47, qtA 48, qtA 49, qtA 50], [], [qvR 0, qvS 0], zh564, []),
  [((61, [(0, (.negSucc 2147483647), (.negSucc 0))], [], [qvK (.ofNat 0)], zh564, []), 0, 0),
   ((61, [qtN 0 3 2147483647], [], [qvK (.ofNat 0)], zh564, []), 0, 0),
   ((61, [qtN 0 0 2], [], [qvK (.ofNat 1)], zh564, []), 0, 0)])
noncomputable def c173_1_e : List Ct := [c145_24]
noncomputable def c173_1_pts : List PE := []
set_option maxRecDepth 100000 in
theorem c173_1_k : enCtF c173_1 c173_1_e (pkP (c173_1_pts ++ []) []) (none) noH 3000 = true := by decide +kernel
set_option maxRecDepth 100000 in
theorem c173_1_v : ValidC PPk c173_1 := ct_ok fpk noH_ok (d := 1) (ext := []) (pts := c173_1_pts) (env := c173_1_e) rfl (List.forall_mem_cons.mpr ⟨⟨c145_24_v, Nat.le_of_ble_eq_true rfl⟩, fun _ h => (by cases h)⟩) ext_nil (fun q h => (by cases h)) (enF c173_1_k) (fun _ h => (by cases h))

noncomputable def zh565 : AH := [zc27, qiC 0 [qgN 1 3 3, qgN 7 0 0, qgN 1 3 3, qgN 1 5 5, qgN 4 0 0, .inl ((.ofNat 0), []), qgN 2 0 0, qgN 1 100 100, qgN 1 0 0, .inl ((.ofNat 0), []), .inr (1, (.negSucc 0), (.negSucc 0)), qgN 9 0 0, .inl ((.ofNat 0), []), .inl ((.ofNat 0), []), .inl ((.ofNat 0), []), .inl ((.ofNat 0), []), .inl ((.ofNat 0), []), .inl ((.ofNat 0), []), .inl ((.ofNat 0), []), .inl ((.ofNat 0), []), .inl ((.ofNat 0), []), .inl ((.ofNat 0), []), .inl ((.ofNat 0), []), .inl ((.ofNat 0), []), qgN 1 1 1, qgN 27 0 0, .inl ((.ofNat 0), []), .inl ((.ofNat 0), []), .inl ((.ofNat 0), []), .inl ((.ofNat 0), []), .inl ((.ofNat 0), []), .inl ((.ofNat 0), []), .inl ((.ofNat 0), []), .inl ((.ofNat 0), []), .inl ((.ofNat 0), []), .inl ((.ofNat 0), []), .inl ((.ofNat 0), []), .inl ((.ofNat 0), []), qgN 1 1 1, qgN 27 0 0, .inl ((.ofNat 0), []), .inl ((.ofNat 0), []), .inl ((.ofNat 0), []), .inl ((.ofNat 0), []), .inl ((.ofNat 0), []), .inl ((.ofNat 0), []), .inl ((.ofNat 0), []), .inl ((.ofNat 0), []), .inl ((.ofNat 0), []), .inl ((.ofNat 0), []), .inl ((.ofNat 0), []), .inl ((.ofNat 0), []), qgN 1 1 1, qgN 27 0 0, .inl ((.ofNat 0), []), .inl ((.ofNat 0), []), .inl ((.ofNat 0), []), .inl ((.ofNat 0), []), .inl ((.ofNat 0), []), .inl ((.ofNat 0), []), .inl ((.ofNat 0), []), .inl ((.ofNat 0), []), .inl ((.ofNat 0), []), .inl ((.ofNat 0), []), .inl ((.ofNat 0), []), .inl ((.ofNat 0), []), qgN 1 1 1, qgN 621 0 0, .inr (1, (.negSucc 99), (.negSucc 99)), qgN 1 100 100, .inr (1, (.negSucc 99), (.negSucc 99)), qgN 1 100 100, .inr (1, (.negSucc 99), (.negSucc 99)), qgN 1 100 100, .inr (1, (.negSucc 99), (.negSucc 99)), qgN 1 100 100, qgN 110 0 0, qgA 8], qiC 0 [qgN 1820 0 0], qiC 3 [qgN 2 0 0], qiC 0 [qgN 70 0 0], qiC 0 [qgN 70 0 0], qiC 0 [qgN 70 0 0], qjC 1 1000000070, qjC 1 1000000008, qiC 0 [qgN 910 0 0], qiC 0 [qgN 910 0 0], qiC 0 [qgN 20 0 0], qiC 0 [qgN 20 0 0], qiC 0 [qgN 910 0 0], qjC 1 1000000004]
noncomputable def c221_0 : Ct := (221, 3, (3, [qtA 0, qtA 1, qtA 2], [], [qvR 0, qvS 0, qvS 1, qvS 2], [zc27, qiC 0 [qgN 1 3 3, qgN 7 0 0, qgN 1 3 3, qgN 1 5 5, qgN 7 0 0, qgN 1 100 100, qgN 2 0 0, .inr (1, (.negSucc 0), (.negSucc 0)), qgN 21 0 0, qgN 1 1 1, qgN 39 0 0, qgN 1 1 1, qgN 39 0 0, qgN 1 1 1, qgN 39 0 0, qgN 1 1 1, qgN 621 0 0, .inr (1, (.negSucc 99), (.negSucc 99)), qgN 1 100 100, .inr (1, (.negSucc 99), (.negSucc 99)), qgN 1 100 100, .inr (1, (.negSucc 99), (.negSucc 99)), qgN 1 100 100, .inr (1, (.negSucc 99), (.negSucc 99)), qgN 1 100 100, qgN 110 0 0, qgA 8], qiC 0 [qgN 1820 0 0], qiC 3 [qgN 2 0 0], qiC 0 [qgN 70 0 0], qiC 0 [qgN 70 0 0], qiC 0 [qgN 70 0 0], qjC 1 1000000070, qjC 1 1000000008, qiC 0 [qgN 910 0 0], qiC 0 [qgN 910 0 0], qiC 0 [qgN 20 0 0], qiC 0 [qgN 20 0 0], qiC 0 [qgN 910 0 0], qjC 1 1000000004], []),
  [((3, [(0, (.negSucc 2147483647), (.negSucc 0))], [], [qvK (.negSucc 1)], zh565, []), 0, 0),
   ((3, [qtN 0 3 2147483647], [], [qvK (.negSucc 1)], zh565, []), 0, 0),
   ((3, [qtN 0 0 2, (1, (.negSucc 2147483647), (.negSucc 1000000))], [], [qvK (.negSucc 1)], zh565, []), 0, 0),
   ((3, [qtN 0 0 2, qtN 1 1000001 2147483647], [], [qvK (.negSucc 1)], zh565, []), 0, 0),
   ((3, [qtN 0 0 2, (1, (.negSucc 999999), (.ofNat 1000000)), (2, (.negSucc 2147483647), (.negSucc 1000))], [], [qvK (.negSucc 1)], zh565, []), 0, 0),
   ((3, [qtN 0 0 2, (1, (.negSucc 999999), (.ofNat 1000000)), qtN 2 1001 2147483647], [], [qvK (.negSucc 1)], zh565, []), 0, 0),
   ((3, [qtN 0 0 2, (1, (.negSucc 999999), (.ofNat 1000000)), (2, (.negSucc 999), (.ofNat 1000))], [], [qvK (.ofNat 1)], zh565, []), 0, 0)])
noncomputable def c221_0_e : List Ct := [c145_13, c145_17, c173_1]
noncomputable def c221_0_pts : List PE := []
set_option maxRecDepth 100000 in
theorem c221_0_k : enCtF c221_0 c221_0_e (pkP (c221_0_pts ++ []) []) (none) noH 3000 = true := by decide +kernel
set_option maxRecDepth 100000 in
theorem c221_0_v : ValidC PPk c221_0 := ct_ok fpk noH_ok (d := 2) (ext := []) (pts := c221_0_pts) (env := c221_0_e) rfl (List.forall_mem_cons.mpr ⟨⟨c145_13_v, Nat.le_of_ble_eq_true rfl⟩, List.forall_mem_cons.mpr ⟨⟨c145_17_v, Nat.le_of_ble_eq_true rfl⟩, List.forall_mem_cons.mpr ⟨⟨c173_1_v, Nat.le_of_ble_eq_true rfl⟩, fun _ h => (by cases h)⟩⟩⟩) ext_nil (fun q h => (by cases h)) (enF c221_0_k) (fun _ h => (by cases h))

noncomputable def c12_29 : Ct := (12, 1, (1, [qtA 0], [], [qvS 0, qvK (.ofNat 0), qvK (.ofNat 100)], [], []),
  [((1, [(0, (.negSucc 2147483647), (.negSucc 0))], [], [qvK (.ofNat 0)], [], []), 0, 0),
   ((1, [qtN 0 101 2147483647], [], [qvK (.ofNat 0)], [], []), 0, 0),
   ((1, [qtN 0 0 100], [], [qvK (.ofNat 1)], [], []), 0, 0)])
noncomputable def c12_29_e : List Ct := []
noncomputable def c12_29_pts : List PE := []
set_option maxRecDepth 100000 in
theorem c12_29_k : enCtF c12_29 c12_29_e (pkP (c12_29_pts ++ []) []) (none) noH 3000 = true := by decide +kernel
set_option maxRecDepth 100000 in
theorem c12_29_v : ValidC PPk c12_29 := ct_ok fpk noH_ok (d := 0) (ext := []) (pts := c12_29_pts) (env := c12_29_e) rfl (fun _ h => (by cases h)) ext_nil (fun q h => (by cases h)) (enF c12_29_k) (fun _ h => (by cases h))

noncomputable def c57_1 : Ct := (57, 1, (0, [], [], [qvR 0, qvK (.ofNat 3)], [qjC 1 1000000006], []),
  [((0, [], [], [.inl (true, ((.ofNat 0), []))], [qjC 1 1000000006], []), 0, 0)])
noncomputable def c57_1_e : List Ct := []
noncomputable def c57_1_p0 : PE := (14, [0, 1, 2], (0, [], [], [qvR 0, qvK (.ofNat 3), qvK (.ofNat 1)], [qjC 1 1000000006], []), symsL 0 0, some ((.ofNat 35), []), 0, 0)
noncomputable def c57_1_p1 : PE := (14, [0, 1, 2, 3, 5], (1, [qtN 0 2 3], [], [qvR 0, qvK (.ofNat 3), qvS 0, .inl (true, ((.ofNat 0), [])), .inl (false, ((.negSucc 0), [(0, (.ofNat 1))]))], [qjC 1 1000000006], []), symsL 0 0, some ((.ofNat 39), [(0, (.negSucc 3))]), 0, 0)
noncomputable def c57_1_p2 : PE := (26, [0, 1, 2, 3, 5], (1, [qtN 0 1 2], [], [qvR 0, qvK (.ofNat 3), qvS 0, .inl (true, ((.ofNat 0), [])), qvS 0], [qjC 1 1000000006], []), symsL 0 0, some ((.ofNat 37), [(0, (.negSucc 3))]), 0, 0)
noncomputable def c57_1_pts : List PE := [c57_1_p0, c57_1_p1, c57_1_p2]
set_option maxRecDepth 100000 in
theorem c57_1_k : enCtF c57_1 c57_1_e (pkP (c57_1_pts ++ []) [0]) (none) (noF, noM, 67125248, 0, 0) 3000 = true := by decide +kernel
set_option maxRecDepth 100000 in
theorem c57_1_k0 : ptCtF c57_1 c57_1_e (pkP (c57_1_pts ++ []) [2]) (noF, noM, 67125248, 0, 0) 3000 c57_1_p0 = true := by decide +kernel
set_option maxRecDepth 100000 in
theorem c57_1_k1 : ptCtF c57_1 c57_1_e (pkP (c57_1_pts ++ []) [2]) (noF, noM, 67125248, 0, 0) 3000 c57_1_p1 = true := by decide +kernel
set_option maxRecDepth 100000 in
theorem c57_1_k2 : ptCtF c57_1 c57_1_e (pkP (c57_1_pts ++ []) [1]) (noF, noM, 67125248, 0, 0) 3000 c57_1_p2 = true := by decide +kernel
set_option maxRecDepth 100000 in
theorem c57_1_v : ValidC PPk c57_1 := ct_ok fpk ⟨noF_ok, noM_ok⟩ (d := 0) (ext := []) (pts := c57_1_pts) (env := c57_1_e) rfl (fun _ h => (by cases h)) ext_nil (fun q h => (by cases h)) (enF c57_1_k) (List.forall_mem_cons.mpr ⟨⟨_, ptF c57_1_k0⟩, List.forall_mem_cons.mpr ⟨⟨_, ptF c57_1_k1⟩, List.forall_mem_cons.mpr ⟨⟨_, ptF c57_1_k2⟩, fun _ h => (by cases h)⟩⟩⟩)

noncomputable def c131_0 : Ct := (131, 1, (0, [], [], [.inl (true, ((.ofNat 0), [])), .inl (true, ((.ofNat 0), []))], [], []),
  [((0, [], [], [.inl (true, ((.ofNat 0), []))], [], []), 0, 0)])
noncomputable def c131_0_e : List Ct := []
noncomputable def c131_0_pts : List PE := []
set_option maxRecDepth 100000 in
theorem c131_0_k : enCtF c131_0 c131_0_e (pkP (c131_0_pts ++ []) []) (none) noH 3000 = true := by decide +kernel
set_option maxRecDepth 100000 in
theorem c131_0_v : ValidC PPk c131_0 := ct_ok fpk noH_ok (d := 0) (ext := []) (pts := c131_0_pts) (env := c131_0_e) rfl (fun _ h => (by cases h)) ext_nil (fun q h => (by cases h)) (enF c131_0_k) (fun _ h => (by cases h))

noncomputable def c132_0 : Ct := (132, 1, (0, [], [], [.inl (true, ((.ofNat 0), [])), .inl (true, ((.ofNat 0), []))], [], []),
  [((0, [], [], [.inl (true, ((.ofNat 0), []))], [], []), 0, 0)])
noncomputable def c132_0_e : List Ct := []
noncomputable def c132_0_pts : List PE := []
set_option maxRecDepth 100000 in
theorem c132_0_k : enCtF c132_0 c132_0_e (pkP (c132_0_pts ++ []) []) (none) noH 3000 = true := by decide +kernel
set_option maxRecDepth 100000 in
theorem c132_0_v : ValidC PPk c132_0 := ct_ok fpk noH_ok (d := 0) (ext := []) (pts := c132_0_pts) (env := c132_0_e) rfl (fun _ h => (by cases h)) ext_nil (fun q h => (by cases h)) (enF c132_0_k) (fun _ h => (by cases h))

noncomputable def zh566 : AH := [zc22, zc15, qrC 4 [some 3, some 8], zc16, qkC 100 1, qkC 100 2, qkC 100 3, qkC 100 4, zc17, qkC 100 5, qkC 100 6, qkC 100 7, qkC 100 8, zc18, qkC 100 9, qkC 100 10, qkC 100 11, qkC 100 12, qkC 100 13, qkC 100 14, qkC 100 15, zc19, qkC 100 16, qkC 100 17, qkC 100 18, qkC 100 19, qkC 100 20, qkC 100 21, zc20, qkC 102 22, qkC 100 23, qjC 1 1000000060, zc21, qkC 100 24, qkC 100 25, qkC 100 26, qkC 100 27, qkC 100 28, qkC 100 29, qiC 0 [qgN 4 0 0], qiC 0 [qgN 4 0 0], qjC 1 1000000006, qjC 1 1000000004]
noncomputable def c130_0 : Ct := (130, 2, (30, [qtN 0 0 100], [], [qvR 0, qvS 0], zh566, []),
  [((30, [], [], [.inl (true, ((.ofNat 0), []))], zh566, []), 0, 0)])
noncomputable def c130_0_e : List Ct := [c131_0, c132_0, c57_1]
noncomputable def c130_0_p0 : PE := (10, [0, 1, 2, 3], (31, [qtN 0 0 100, qtN 30 0 3], [], [qvR 0, qvS 0, qvK (.ofNat 3), qvS 30], zh566, []), symsL 30 0, some ((.ofNat 14248), [(30, (.negSucc 27))]), 0, 0)
noncomputable def c130_0_p1 : PE := (39, [0, 1, 2, 3], (30, [qtN 0 0 100], [], [qvR 0, qvS 0, qvK (.ofNat 3), qvK (.ofNat 0)], zh566, []), symsL 30 0, some ((.ofNat 14136), []), 0, 0)
noncomputable def c130_0_p2 : PE := (39, [0, 1, 2, 3, 4, 6], (31, [qtN 0 1 100, qtN 30 1 100], [], [qvR 0, qvS 0, qvK (.ofNat 3), qvS 30, .inl (true, ((.ofNat 0), [])), qvK (.ofNat 3)], zh566, []), symsL 30 0, some ((.ofNat 14136), [(30, (.negSucc 27))]), 0, 0)
noncomputable def c130_0_p3 : PE := (47, [0, 1, 2, 3, 4, 6], (32, [qtN 0 2 100, qtN 30 1 99, qtN 31 0 3], [], [qvR 0, qvS 0, qvK (.ofNat 3), qvS 30, qvS 31, qvK (.ofNat 3)], zh566, []), symsL 30 0, some ((.ofNat 14127), [(30, (.negSucc 27)), (31, (.negSucc 0))]), 0, 0)
noncomputable def c130_0_p4 : PE := (47, [0, 1, 2, 3, 4], (31, [qtN 0 1 100, qtN 30 0 3], [], [qvR 0, qvS 0, qvK (.ofNat 3), qvK (.ofNat 0), qvS 30], zh566, []), symsL 30 0, some ((.ofNat 14127), [(30, (.negSucc 0))]), 0, 0)
noncomputable def c130_0_p5 : PE := (107, [0, 1, 2, 3, 4, 6], (32, [qtN 0 1 100, qtN 30 0 99, qtN 31 0 3], [], [qvR 0, qvS 0, qvK (.ofNat 3), qvS 30, .inl (true, ((.ofNat 0), [])), qvS 31], zh566, []), symsL 30 0, some ((.ofNat 14123), [(30, (.negSucc 27)), (31, (.negSucc 0))]), 0, 0)
noncomputable def c130_0_p6 : PE := (167, [0, 1, 2, 3, 5, 7], (31, [qtN 0 0 100, qtN 30 1 3], [], [qvR 0, qvS 0, qvK (.ofNat 3), .inl (true, ((.ofNat 0), [])), .inl (true, ((.ofNat 0), [])), qvS 30], zh566, []), symsL 30 0, some ((.ofNat 2936), [(30, (.negSucc 27))]), 0, 0)
noncomputable def c130_0_pts : List PE := [c130_0_p0, c130_0_p1, c130_0_p2, c130_0_p3, c130_0_p4, c130_0_p5, c130_0_p6]
set_option maxRecDepth 100000 in
theorem c130_0_k : enCtF c130_0 c130_0_e (pkP (c130_0_pts ++ []) [0]) (none) (noF, noM, 187072209578355573692330935416897590048824619959296, 0, 30) 3000 = true := by decide +kernel
set_option maxRecDepth 100000 in
theorem c130_0_k0 : ptCtF c130_0 c130_0_e (pkP (c130_0_pts ++ []) [1, 0]) (noF, noM, 187072209578355573692330935416897590048824619959296, 0, 30) 3000 c130_0_p0 = true := by decide +kernel
set_option maxRecDepth 100000 in
theorem c130_0_k1 : ptCtF c130_0 c130_0_e (pkP (c130_0_pts ++ []) [6, 4]) (noF, noM, 187072209578355573692330935416897590048824619959296, 0, 30) 3000 c130_0_p1 = true := by decide +kernel
set_option maxRecDepth 100000 in
theorem c130_0_k2 : ptCtF c130_0 c130_0_e (pkP (c130_0_pts ++ []) [6, 3]) (noF, noM, 187072209578355573692330935416897590048824619959296, 0, 30) 3000 c130_0_p2 = true := by decide +kernel
set_option maxRecDepth 100000 in
theorem c130_0_k3 : ptCtF c130_0 c130_0_e (pkP (c130_0_pts ++ []) [5, 3]) (noF, noM, 187072209578355573692330935416897590048824619959296, 0, 30) 3000 c130_0_p3 = true := by decide +kernel
set_option maxRecDepth 100000 in
theorem c130_0_k4 : ptCtF c130_0 c130_0_e (pkP (c130_0_pts ++ []) [5, 4]) (noF, noM, 187072209578355573692330935416897590048824619959296, 0, 30) 3000 c130_0_p4 = true := by decide +kernel
set_option maxRecDepth 100000 in
theorem c130_0_k5 : ptCtF c130_0 c130_0_e (pkP (c130_0_pts ++ []) [2, 5]) (noF, noM, 187072209578355573692330935416897590048824619959296, 0, 30) 3000 c130_0_p5 = true := by decide +kernel
set_option maxRecDepth 100000 in
theorem c130_0_k6 : ptCtF c130_0 c130_0_e (pkP (c130_0_pts ++ []) [6]) (noF, noM, 187072209578355573692330935416897590048824619959296, 0, 30) 3000 c130_0_p6 = true := by decide +kernel
set_option maxRecDepth 100000 in
theorem c130_0_v : ValidC PPk c130_0 := ct_ok fpk ⟨noF_ok, noM_ok⟩ (d := 1) (ext := []) (pts := c130_0_pts) (env := c130_0_e) rfl (List.forall_mem_cons.mpr ⟨⟨c131_0_v, Nat.le_of_ble_eq_true rfl⟩, List.forall_mem_cons.mpr ⟨⟨c132_0_v, Nat.le_of_ble_eq_true rfl⟩, List.forall_mem_cons.mpr ⟨⟨c57_1_v, Nat.le_of_ble_eq_true rfl⟩, fun _ h => (by cases h)⟩⟩⟩) ext_nil (fun q h => (by cases h)) (enF c130_0_k) (List.forall_mem_cons.mpr ⟨⟨_, ptF c130_0_k0⟩, List.forall_mem_cons.mpr ⟨⟨_, ptF c130_0_k1⟩, List.forall_mem_cons.mpr ⟨⟨_, ptF c130_0_k2⟩, List.forall_mem_cons.mpr ⟨⟨_, ptF c130_0_k3⟩, List.forall_mem_cons.mpr ⟨⟨_, ptF c130_0_k4⟩, List.forall_mem_cons.mpr ⟨⟨_, ptF c130_0_k5⟩, List.forall_mem_cons.mpr ⟨⟨_, ptF c130_0_k6⟩, fun _ h => (by cases h)⟩⟩⟩⟩⟩⟩⟩)

noncomputable def c129_0 : Ct := (129, 3, (1, [qtA 0], [], [qvR 0, qvS 0], zh43, []),
  [((1, [(0, (.negSucc 2147483647), (.negSucc 0))], [], [.inl (true, ((.negSucc 1), []))], zh43, []), 0, 0),
   ((1, [qtN 0 101 2147483647], [], [.inl (true, ((.negSucc 1), []))], zh43, []), 0, 0),
   ((1, [qtN 0 0 100], [], [.inl (true, ((.ofNat 0), []))], zh43, []), 0, 0)])
noncomputable def c129_0_e : List Ct := [c12_29, c130_0]
noncomputable def c129_0_pts : List PE := []
set_option maxRecDepth 100000 in
theorem c129_0_k : enCtF c129_0 c129_0_e (pkP (c129_0_pts ++ []) []) (none) noH 3000 = true := by decide +kernel
set_option maxRecDepth 100000 in
theorem c129_0_v : ValidC PPk c129_0 := ct_ok fpk noH_ok (d := 2) (ext := []) (pts := c129_0_pts) (env := c129_0_e) rfl (List.forall_mem_cons.mpr ⟨⟨c12_29_v, Nat.le_of_ble_eq_true rfl⟩, List.forall_mem_cons.mpr ⟨⟨c130_0_v, Nat.le_of_ble_eq_true rfl⟩, fun _ h => (by cases h)⟩⟩) ext_nil (fun q h => (by cases h)) (enF c129_0_k) (fun _ h => (by cases h))

noncomputable def c145_29 : Ct := (145, 1, (1, [qtA 0], [], [qvS 0, qvK (.ofNat 0), qvK (.ofNat 100)], [], []),
  [((1, [(0, (.negSucc 2147483647), (.negSucc 0))], [], [qvK (.ofNat 0)], [], []), 0, 0),
   ((1, [qtN 0 101 2147483647], [], [qvK (.ofNat 0)], [], []), 0, 0),
   ((1, [qtN 0 0 100], [], [qvK (.ofNat 1)], [], []), 0, 0)])
noncomputable def c145_29_e : List Ct := []
noncomputable def c145_29_pts : List PE := []
set_option maxRecDepth 100000 in
theorem c145_29_k : enCtF c145_29 c145_29_e (pkP (c145_29_pts ++ []) []) (none) noH 3000 = true := by decide +kernel
set_option maxRecDepth 100000 in
theorem c145_29_v : ValidC PPk c145_29 := ct_ok fpk noH_ok (d := 0) (ext := []) (pts := c145_29_pts) (env := c145_29_e) rfl (fun _ h => (by cases h)) ext_nil (fun q h => (by cases h)) (enF c145_29_k) (fun _ h => (by cases h))

noncomputable def zc567 : AC := qoC 12 [qvR 1, qvR 2, qvR 3, qvK (.ofNat 0), qvR 4, qvR 5, qvK (.ofNat 0), qvR 6, qvR 7, qvK (.ofNat 1), qvR 8, qvK (.ofNat 0), qvR 9, qvR 10, qvR 11, qvR 12, qvK (.ofNat 0), qvK (.ofNat 0), qvK (.ofNat 0), qvR 13, qvK (.ofNat 0), qvK (.ofNat 0), qvK (.ofNat 0), qvR 14]
noncomputable def zh568 : AH := [zc567, qkC 100 0, qkC 100 1, qkC 103 2, qkC 100 3, qkC 100 4, qkC 100 5, qjC 1 1000000070, qjC 1 1000000008, qkC 100 6, qkC 100 7, qkC 100 8, qkC 100 9, qkC 100 10, qjC 1 1000000004]
noncomputable def c178_0 : Ct := (178, 1, (11, [], [], [qvR 0, .inl (true, ((.ofNat 0), []))], zh94, []),
  [((11, [], [], [], zh568, []), 0, 0)])
noncomputable def c178_0_e : List Ct := []
noncomputable def c178_0_p0 : PE := (5, [0, 1, 3], (11, [], [], [qvR 0, .inl (true, ((.ofNat 0), [])), qvK (.ofNat 0)], zh94, []), symsL 11 0, some ((.ofNat 1), []), 0, 0)
noncomputable def c178_0_pts : List PE := [c178_0_p0]
set_option maxRecDepth 100000 in
theorem c178_0_k : enCtF c178_0 c178_0_e (pkP (c178_0_pts ++ []) [0]) (none) (noF, noM, 32, 0, 11) 3000 = true := by decide +kernel
set_option maxRecDepth 100000 in
theorem c178_0_k0 : ptCtF c178_0 c178_0_e (pkP (c178_0_pts ++ []) []) (noF, noM, 32, 0, 11) 3000 c178_0_p0 = true := by decide +kernel
set_option maxRecDepth 100000 in
theorem c178_0_v : ValidC PPk c178_0 := ct_ok fpk ⟨noF_ok, noM_ok⟩ (d := 0) (ext := []) (pts := c178_0_pts) (env := c178_0_e) rfl (fun _ h => (by cases h)) ext_nil (fun q h => (by cases h)) (enF c178_0_k) (List.forall_mem_cons.mpr ⟨⟨_, ptF c178_0_k0⟩, fun _ h => (by cases h)⟩)

noncomputable def zc569 : AC := qoC 12 [qvR 1, qvR 2, qvR 3, qvK (.ofNat 0), qvR 4, qvR 5, qvK (.ofNat 0), qvR 6, qvR 7, qvK (.ofNat 2), qvR 8, qvK (.ofNat 0), qvR 9, qvR 10, qvR 11, qvR 12, qvK (.ofNat 0), qvK (.ofNat 0), qvK (.ofNat 0), qvR 13, qvK (.ofNat 0), qvK (.ofNat 0), qvK (.ofNat 0), qvR 14]
noncomputable def zh570 : AH := [zc569, qkC 100 0, qkC 100 1, qkC 103 2, qkC 100 3, qkC 100 4, qkC 100 5, qjC 1 1000000070, qjC 1 1000000008, qkC 100 6, qkC 100 7, qkC 100 8, qkC 100 9, qkC 100 10, qjC 1 1000000004]
noncomputable def c178_1 : Ct := (178, 1, (11, [], [], [qvR 0, .inl (true, ((.ofNat 0), []))], zh568, []),
  [((11, [], [], [], zh570, []), 0, 0)])
noncomputable def c178_1_e : List Ct := []
noncomputable def c178_1_p0 : PE := (5, [0, 1, 3], (11, [], [], [qvR 0, .inl (true, ((.ofNat 0), [])), qvK (.ofNat 1)], zh568, []), symsL 11 0, some ((.ofNat 1), []), 0, 0)
noncomputable def c178_1_pts : List PE := [c178_1_p0]
set_option maxRecDepth 100000 in
theorem c178_1_k : enCtF c178_1 c178_1_e (pkP (c178_1_pts ++ []) [0]) (none) (noF, noM, 32, 0, 11) 3000 = true := by decide +kernel
set_option maxRecDepth 100000 in
theorem c178_1_k0 : ptCtF c178_1 c178_1_e (pkP (c178_1_pts ++ []) []) (noF, noM, 32, 0, 11) 3000 c178_1_p0 = true := by decide +kernel
set_option maxRecDepth 100000 in
theorem c178_1_v : ValidC PPk c178_1 := ct_ok fpk ⟨noF_ok, noM_ok⟩ (d := 0) (ext := []) (pts := c178_1_pts) (env := c178_1_e) rfl (fun _ h => (by cases h)) ext_nil (fun q h => (by cases h)) (enF c178_1_k) (List.forall_mem_cons.mpr ⟨⟨_, ptF c178_1_k0⟩, fun _ h => (by cases h)⟩)

noncomputable def zc571 : AC := qoC 12 [qvR 1, qvR 2, qvR 3, qvK (.ofNat 0), qvR 4, qvR 5, qvK (.ofNat 0), qvR 6, qvR 7, qvK (.ofNat 3), qvR 8, qvK (.ofNat 0), qvR 9, qvR 10, qvR 11, qvR 12, qvK (.ofNat 0), qvK (.ofNat 0), qvK (.ofNat 0), qvR 13, qvK (.ofNat 0), qvK (.ofNat 0), qvK (.ofNat 0), qvR 14]
noncomputable def zh572 : AH := [zc571, qkC 100 0, qkC 100 1, qkC 103 2, qkC 100 3, qkC 100 4, qkC 100 5, qjC 1 1000000070, qjC 1 1000000008, qkC 100 6, qkC 100 7, qkC 100 8, qkC 100 9, qkC 100 10, qjC 1 1000000004]
noncomputable def c178_2 : Ct := (178, 1, (11, [], [], [qvR 0, .inl (true, ((.ofNat 0), []))], zh570, []),
  [((11, [], [], [], zh572, []), 0, 0)])
noncomputable def c178_2_e : List Ct := []
noncomputable def c178_2_p0 : PE := (5, [0, 1, 3], (11, [], [], [qvR 0, .inl (true, ((.ofNat 0), [])), qvK (.ofNat 2)], zh570, []), symsL 11 0, some ((.ofNat 1), []), 0, 0)
noncomputable def c178_2_pts : List PE := [c178_2_p0]
set_option maxRecDepth 100000 in
theorem c178_2_k : enCtF c178_2 c178_2_e (pkP (c178_2_pts ++ []) [0]) (none) (noF, noM, 32, 0, 11) 3000 = true := by decide +kernel
set_option maxRecDepth 100000 in
theorem c178_2_k0 : ptCtF c178_2 c178_2_e (pkP (c178_2_pts ++ []) []) (noF, noM, 32, 0, 11) 3000 c178_2_p0 = true := by decide +kernel
set_option maxRecDepth 100000 in
theorem c178_2_v : ValidC PPk c178_2 := ct_ok fpk ⟨noF_ok, noM_ok⟩ (d := 0) (ext := []) (pts := c178_2_pts) (env := c178_2_e) rfl (fun _ h => (by cases h)) ext_nil (fun q h => (by cases h)) (enF c178_2_k) (List.forall_mem_cons.mpr ⟨⟨_, ptF c178_2_k0⟩, fun _ h => (by cases h)⟩)

noncomputable def c179_2 : Ct := (179, 1, (11, [], [], [qvR 0], zh572, []),
  [((11, [], [], [.inl (true, ((.ofNat 0), []))], zh572, []), 0, 0)])
noncomputable def c179_2_e : List Ct := []
noncomputable def c179_2_pts : List PE := []
set_option maxRecDepth 100000 in
theorem c179_2_k : enCtF c179_2 c179_2_e (pkP (c179_2_pts ++ []) []) (none) noH 3000 = true := by decide +kernel
set_option maxRecDepth 100000 in
theorem c179_2_v : ValidC PPk c179_2 := ct_ok fpk noH_ok (d := 0) (ext := []) (pts := c179_2_pts) (env := c179_2_e) rfl (fun _ h => (by cases h)) ext_nil (fun q h => (by cases h)) (enF c179_2_k) (fun _ h => (by cases h))

noncomputable def zh573 : AH := [zc571, zc28, qiC 0 [qgN 1820 0 0], qiC 3 [qgN 2 0 0], qiC 0 [qgN 70 0 0], qiC 0 [qgN 70 0 0], qiC 0 [qgN 70 0 0], qjC 1 1000000070, qjC 1 1000000008, qiC 0 [qgN 910 0 0], qiC 0 [qgN 910 0 0], qiC 0 [qgN 20 0 0], qiC 0 [qgN 20 0 0], qiC 0 [qgN 910 0 0], qjC 1 1000000004]
noncomputable def zh574 : AH := [zc567, zc28, qiC 0 [qgN 1820 0 0], qiC 3 [qgN 2 0 0], qiC 0 [qgN 70 0 0], qiC 0 [qgN 70 0 0], qiC 0 [qgN 70 0 0], qjC 1 1000000070, qjC 1 1000000008, qiC 0 [qgN 910 0 0], qiC 0 [qgN 910 0 0], qiC 0 [qgN 20 0 0], qiC 0 [qgN 20 0 0], qiC 0 [qgN 910 0 0], qjC 1 1000000004]
noncomputable def zh575 : AH := [zc569, zc28, qiC 0 [qgN 1820 0 0], qiC 3 [qgN 2 0 0], qiC 0 [qgN 70 0 0], qiC 0 [qgN 70 0 0], qiC 0 [qgN 70 0 0], qjC 1 1000000070, qjC 1 1000000008, qiC 0 [qgN 910 0 0], qiC 0 [qgN 910 0 0], qiC 0 [qgN 20 0 0], qiC 0 [qgN 20 0 0], qiC 0 [qgN 910 0 0], qjC 1 1000000004]
noncomputable def c222_0 : Ct := (222, 2, (1, [qtA 0], [], [qvR 0, qvS 0], zh29, []),
  [((1, [(0, (.negSucc 2147483647), (.negSucc 0))], [], [.inl (true, ((.negSucc 1), []))], zh29, []), 0, 0),
   ((1, [qtN 0 101 2147483647], [], [.inl (true, ((.negSucc 1), []))], zh29, []), 0, 0),
   ((2, [qtN 0 0 100, qtN 1 0 3], [], [.inl (true, ((.ofNat 0), []))], [qoC 12 [qvR 1, qvR 2, qvR 3, qvK (.ofNat 0), qvR 4, qvR 5, qvK (.ofNat 0), qvR 6, qvR 7, qvS 1, qvR 8, qvK (.ofNat 0), qvR 9, qvR 10, qvR 11, qvR 12, qvK (.ofNat 0), qvK (.ofNat 0), qvK (.ofNat 0), qvR 13, qvK (.ofNat 0), qvK (.ofNat 0), qvK (.ofNat 0), qvR 14], zc28, qiC 0 [qgN 1820 0 0], qiC 3 [qgN 2 0 0], qiC 0 [qgN 70 0 0], qiC 0 [qgN 70 0 0], qiC 0 [qgN 70 0 0], qjC 1 1000000070, qjC 1 1000000008, qiC 0 [qgN 910 0 0], qiC 0 [qgN 910 0 0], qiC 0 [qgN 20 0 0], qiC 0 [qgN 20 0 0], qiC 0 [qgN 910 0 0], qjC 1 1000000004], []), 0, 0)])
noncomputable def c222_0_e : List Ct := [c145_29, c178_0, c178_1, c178_2, c179_2]
noncomputable def c222_0_p0 : PE := (16, [0, 1, 2], (2, [qtN 0 0 100, qtN 1 0 3], [], [qvR 0, qvS 0, qvS 1], zh29, []), symsL 1 0, some ((.ofNat 19516), [(1, (.negSucc 31))]), 0, 0)
noncomputable def c222_0_p1 : PE := (53, [0, 1, 2], (1, [qtN 0 0 100], [], [qvR 0, qvS 0, qvK (.ofNat 0)], zh29, []), symsL 1 0, some ((.ofNat 19388), []), 0, 0)
noncomputable def c222_0_p2 : PE := (53, [0, 1, 2, 3, 5], (2, [qtN 0 1 100, qtN 1 1 100], [], [qvR 0, qvS 0, qvS 1, .inl (true, ((.ofNat 0), [])), qvK (.ofNat 3)], zh573, []), symsL 1 0, some ((.ofNat 19388), [(1, (.negSucc 31))]), 0, 0)
noncomputable def c222_0_p3 : PE := (65, [3, 0, 1, 2], (1, [qtN 0 1 100], [], [qvK (.ofNat 0), qvR 0, qvS 0, qvK (.ofNat 0)], zh29, []), symsL 1 0, some ((.ofNat 19379), []), 0, 0)
noncomputable def c222_0_p4 : PE := (65, [3, 0, 1, 2, 5], (2, [qtN 0 2 100, qtN 1 1 99], [], [qvK (.ofNat 0), qvR 0, qvS 0, qvS 1, qvK (.ofNat 3)], zh29, []), symsL 1 0, some ((.ofNat 19379), [(1, (.negSucc 31))]), 0, 0)
noncomputable def c222_0_p5 : PE := (65, [3, 0, 1, 2], (1, [qtN 0 1 100], [], [qvK (.ofNat 1), qvR 0, qvS 0, qvK (.ofNat 0)], zh574, []), symsL 1 0, some ((.ofNat 19378), []), 0, 0)
noncomputable def c222_0_p6 : PE := (65, [3, 0, 1, 2, 5], (2, [qtN 0 2 100, qtN 1 1 99], [], [qvK (.ofNat 1), qvR 0, qvS 0, qvS 1, qvK (.ofNat 3)], zh574, []), symsL 1 0, some ((.ofNat 19378), [(1, (.negSucc 31))]), 0, 0)
noncomputable def c222_0_p7 : PE := (65, [3, 0, 1, 2], (1, [qtN 0 1 100], [], [qvK (.ofNat 2), qvR 0, qvS 0, qvK (.ofNat 0)], zh575, []), symsL 1 0, some ((.ofNat 19377), []), 0, 0)
noncomputable def c222_0_p8 : PE := (65, [3, 0, 1, 2, 5], (2, [qtN 0 2 100, qtN 1 1 99], [], [qvK (.ofNat 2), qvR 0, qvS 0, qvS 1, qvK (.ofNat 3)], zh575, []), symsL 1 0, some ((.ofNat 19377), [(1, (.negSucc 31))]), 0, 0)
noncomputable def c222_0_p9 : PE := (65, [3, 0, 1, 2], (1, [qtN 0 1 100], [], [qvK (.ofNat 3), qvR 0, qvS 0, qvK (.ofNat 0)], zh573, []), symsL 1 0, some ((.ofNat 19376), []), 0, 0)
noncomputable def c222_0_p10 : PE := (65, [3, 0, 1, 2, 5], (2, [qtN 0 2 100, qtN 1 1 99], [], [qvK (.ofNat 3), qvR 0, qvS 0, qvS 1, qvK (.ofNat 3)], zh573, []), symsL 1 0, some ((.ofNat 19376), [(1, (.negSucc 31))]), 0, 0)
noncomputable def c222_0_p11 : PE := (123, [0, 1, 2, 3, 5], (3, [qtN 0 1 100, qtN 1 0 99, qtN 2 0 3], [], [qvR 0, qvS 0, qvS 1, .inl (true, ((.ofNat 0), [])), qvS 2], zh573, []), symsL 1 0, some ((.ofNat 19375), [(1, (.negSucc 31)), (2, (.negSucc 0))]), 0, 0)
noncomputable def c222_0_p12 : PE := (174, [0, 1, 2, 4], (1, [qtN 0 0 0], [], [qvR 0, qvS 0, .inl (true, ((.ofNat 0), [])), qvK (.ofNat 0)], zh29, []), symsL 1 0, some ((.ofNat 6588), []), 0, 0)
noncomputable def c222_0_p13 : PE := (174, [0, 1, 2, 4, 5], (3, [qtN 0 0 100, qtN 1 0 3, qtN 2 0 3], [], [qvR 0, qvS 0, .inl (true, ((.ofNat 0), [])), qvS 1, qvK (.ofNat 3)], [qoC 12 [qvR 1, qvR 2, qvR 3, qvK (.ofNat 0), qvR 4, qvR 5, qvK (.ofNat 0), qvR 6, qvR 7, qvS 2, qvR 8, qvK (.ofNat 0), qvR 9, qvR 10, qvR 11, qvR 12, qvK (.ofNat 0), qvK (.ofNat 0), qvK (.ofNat 0), qvR 13, qvK (.ofNat 0), qvK (.ofNat 0), qvK (.ofNat 0), qvR 14], zc28, qiC 0 [qgN 1820 0 0], qiC 3 [qgN 2 0 0], qiC 0 [qgN 70 0 0], qiC 0 [qgN 70 0 0], qiC 0 [qgN 70 0 0], qjC 1 1000000070, qjC 1 1000000008, qiC 0 [qgN 910 0 0], qiC 0 [qgN 910 0 0], qiC 0 [qgN 20 0 0], qiC 0 [qgN 20 0 0], qiC 0 [qgN 910 0 0], qjC 1 1000000004], []), symsL 1 0, some ((.ofNat 6588), [(1, (.negSucc 31))]), 0, 0)
noncomputable def c222_0_p14 : PE := (188, [0, 1, 2, 4, 5], (4, [qtN 0 0 100, qtN 1 0 2, qtN 2 0 3, qtN 3 0 3], [], [qvR 0, qvS 0, .inl (true, ((.ofNat 0), [])), qvS 1, qvS 2], [qoC 12 [qvR 1, qvR 2, qvR 3, qvK (.ofNat 0), qvR 4, qvR 5, qvK (.ofNat 0), qvR 6, qvR 7, qvS 3, qvR 8, qvK (.ofNat 0), qvR 9, qvR 10, qvR 11, qvR 12, qvK (.ofNat 0), qvK (.ofNat 0), qvK (.ofNat 0), qvR 13, qvK (.ofNat 0), qvK (.ofNat 0), qvK (.ofNat 0), qvR 14], zc28, qiC 0 [qgN 1820 0 0], qiC 3 [qgN 2 0 0], qiC 0 [qgN 70 0 0], qiC 0 [qgN 70 0 0], qiC 0 [qgN 70 0 0], qjC 1 1000000070, qjC 1 1000000008, qiC 0 [qgN 910 0 0], qiC 0 [qgN 910 0 0], qiC 0 [qgN 20 0 0], qiC 0 [qgN 20 0 0], qiC 0 [qgN 910 0 0], qjC 1 1000000004], []), symsL 1 0, some ((.ofNat 6567), [(1, (.negSucc 31)), (2, (.negSucc 0))]), 0, 0)
noncomputable def c222_0_pts : List PE := [c222_0_p0, c222_0_p1, c222_0_p2, c222_0_p3, c222_0_p4, c222_0_p5, c222_0_p6, c222_0_p7, c222_0_p8, c222_0_p9, c222_0_p10, c222_0_p11, c222_0_p12, c222_0_p13, c222_0_p14]
set_option maxRecDepth 100000 in
theorem c222_0_k : enCtF c222_0 c222_0_e (pkP (c222_0_pts ++ []) [0]) (none) (noF, noM, 392342803704493577263782512089057701607524209906702942208, 0, 1) 3000 = true := by decide +kernel
set_option maxRecDepth 100000 in
theorem c222_0_k0 : ptCtF c222_0 c222_0_e (pkP (c222_0_pts ++ []) [1, 0]) (noF, noM, 392342803704493577263782512089057701607524209906702942208, 0, 1) 3000 c222_0_p0 = true := by decide +kernel
set_option maxRecDepth 100000 in
theorem c222_0_k1 : ptCtF c222_0 c222_0_e (pkP (c222_0_pts ++ []) [12, 3]) (noF, noM, 392342803704493577263782512089057701607524209906702942208, 0, 1) 3000 c222_0_p1 = true := by decide +kernel
set_option maxRecDepth 100000 in
theorem c222_0_k2 : ptCtF c222_0 c222_0_e (pkP (c222_0_pts ++ []) [13, 4]) (noF, noM, 392342803704493577263782512089057701607524209906702942208, 0, 1) 3000 c222_0_p2 = true := by decide +kernel
set_option maxRecDepth 100000 in
theorem c222_0_k3 : ptCtF c222_0 c222_0_e (pkP (c222_0_pts ++ []) [5]) (noF, noM, 392342803704493577263782512089057701607524209906702942208, 0, 1) 3000 c222_0_p3 = true := by decide +kernel
set_option maxRecDepth 100000 in
theorem c222_0_k4 : ptCtF c222_0 c222_0_e (pkP (c222_0_pts ++ []) [6]) (noF, noM, 392342803704493577263782512089057701607524209906702942208, 0, 1) 3000 c222_0_p4 = true := by decide +kernel
set_option maxRecDepth 100000 in
theorem c222_0_k5 : ptCtF c222_0 c222_0_e (pkP (c222_0_pts ++ []) [7]) (noF, noM, 392342803704493577263782512089057701607524209906702942208, 0, 1) 3000 c222_0_p5 = true := by decide +kernel
set_option maxRecDepth 100000 in
theorem c222_0_k6 : ptCtF c222_0 c222_0_e (pkP (c222_0_pts ++ []) [8]) (noF, noM, 392342803704493577263782512089057701607524209906702942208, 0, 1) 3000 c222_0_p6 = true := by decide +kernel
set_option maxRecDepth 100000 in
theorem c222_0_k7 : ptCtF c222_0 c222_0_e (pkP (c222_0_pts ++ []) [9]) (noF, noM, 392342803704493577263782512089057701607524209906702942208, 0, 1) 3000 c222_0_p7 = true := by decide +kernel
set_option maxRecDepth 100000 in
theorem c222_0_k8 : ptCtF c222_0 c222_0_e (pkP (c222_0_pts ++ []) [10]) (noF, noM, 392342803704493577263782512089057701607524209906702942208, 0, 1) 3000 c222_0_p8 = true := by decide +kernel
set_option maxRecDepth 100000 in
theorem c222_0_k9 : ptCtF c222_0 c222_0_e (pkP (c222_0_pts ++ []) [11]) (noF, noM, 392342803704493577263782512089057701607524209906702942208, 0, 1) 3000 c222_0_p9 = true := by decide +kernel
set_option maxRecDepth 100000 in
theorem c222_0_k10 : ptCtF c222_0 c222_0_e (pkP (c222_0_pts ++ []) [11]) (noF, noM, 392342803704493577263782512089057701607524209906702942208, 0, 1) 3000 c222_0_p10 = true := by decide +kernel
set_option maxRecDepth 100000 in
theorem c222_0_k11 : ptCtF c222_0 c222_0_e (pkP (c222_0_pts ++ []) [2, 11]) (noF, noM, 392342803704493577263782512089057701607524209906702942208, 0, 1) 3000 c222_0_p11 = true := by decide +kernel
set_option maxRecDepth 100000 in
theorem c222_0_k12 : ptCtF c222_0 c222_0_e (pkP (c222_0_pts ++ []) [14]) (noF, noM, 392342803704493577263782512089057701607524209906702942208, 0, 1) 3000 c222_0_p12 = true := by decide +kernel
set_option maxRecDepth 100000 in
theorem c222_0_k13 : ptCtF c222_0 c222_0_e (pkP (c222_0_pts ++ []) [14]) (noF, noM, 392342803704493577263782512089057701607524209906702942208, 0, 1) 3000 c222_0_p13 = true := by decide +kernel
set_option maxRecDepth 100000 in
theorem c222_0_k14 : ptCtF c222_0 c222_0_e (pkP (c222_0_pts ++ []) [13, 14]) (noF, noM, 392342803704493577263782512089057701607524209906702942208, 0, 1) 3000 c222_0_p14 = true := by decide +kernel
set_option maxRecDepth 100000 in
theorem c222_0_v : ValidC PPk c222_0 := ct_ok fpk ⟨noF_ok, noM_ok⟩ (d := 1) (ext := []) (pts := c222_0_pts) (env := c222_0_e) rfl (List.forall_mem_cons.mpr ⟨⟨c145_29_v, Nat.le_of_ble_eq_true rfl⟩, List.forall_mem_cons.mpr ⟨⟨c178_0_v, Nat.le_of_ble_eq_true rfl⟩, List.forall_mem_cons.mpr ⟨⟨c178_1_v, Nat.le_of_ble_eq_true rfl⟩, List.forall_mem_cons.mpr ⟨⟨c178_2_v, Nat.le_of_ble_eq_true rfl⟩, List.forall_mem_cons.mpr ⟨⟨c179_2_v, Nat.le_of_ble_eq_true rfl⟩, fun _ h => (by cases h)⟩⟩⟩⟩⟩) ext_nil (fun q h => (by cases h)) (enF c222_0_k) (List.forall_mem_cons.mpr ⟨⟨_, ptF c222_0_k0⟩, List.forall_mem_cons.mpr ⟨⟨_, ptF c222_0_k1⟩, List.forall_mem_cons.mpr ⟨⟨_, ptF c222_0_k2⟩, List.forall_mem_cons.mpr ⟨⟨_, ptF c222_0_k3⟩, List.forall_mem_cons.mpr ⟨⟨_, ptF c222_0_k4⟩, List.forall_mem_cons.mpr ⟨⟨_, ptF c222_0_k5⟩, List.forall_mem_cons.mpr ⟨⟨_, ptF c222_0_k6⟩, List.forall_mem_cons.mpr ⟨⟨_, ptF c222_0_k7⟩, List.forall_mem_cons.mpr ⟨⟨_, ptF c222_0_k8⟩, List.forall_mem_cons.mpr ⟨⟨_, ptF c222_0_k9⟩, List.forall_mem_cons.mpr ⟨⟨_, ptF c222_0_k10⟩, List.forall_mem_cons.mpr ⟨⟨_, ptF c222_0_k11⟩, List.forall_mem_cons.mpr ⟨⟨_, ptF c222_0_k12⟩, List.forall_mem_cons.mpr ⟨⟨_, ptF c222_0_k13⟩, List.forall_mem_cons.mpr ⟨⟨_, ptF c222_0_k14⟩, fun _ h => (by cases h)⟩⟩⟩⟩⟩⟩⟩⟩⟩⟩⟩⟩⟩⟩⟩)

noncomputable def zh576 : AH := [zc7, qiC 0 [qgN 60 0 0], qiC 0 [qgN 60 0 0], qiC 0 [qgN 60 0 0], qiC 0 [qgN 60 0 0], qoC 2 [qvK (.ofNat 0), qvR 6, qvR 7, qvR 8, qvR 9], qiC 0 [qgN 60 0 0], qiC 0 [qgN 60 0 0], qiC 0 [qgN 60 0 0], qiC 0 [qgN 60 0 0]]
noncomputable def c135_0 : Ct := (135, 1, (0, [], [], [qvR 0, qvR 5], zh576, []),
  [((0, [], [], [], zh576, []), 0, 0)])
noncomputable def c135_0_e : List Ct := []
noncomputable def c135_0_pts : List PE := []
set_option maxRecDepth 100000 in
theorem c135_0_k : enCtF c135_0 c135_0_e (pkP (c135_0_pts ++ []) []) (none) noH 3000 = true := by decide +kernel
set_option maxRecDepth 100000 in
theorem c135_0_v : ValidC PPk c135_0 := ct_ok fpk noH_ok (d := 0) (ext := []) (pts := c135_0_pts) (env := c135_0_e) rfl (fun _ h => (by cases h)) ext_nil (fun q h => (by cases h)) (enF c135_0_k) (fun _ h => (by cases h))

noncomputable def zh577 : AH := [zc0, qiC 0 [qgN 6 0 0], qiC 0 [qgN 6 0 0], qiC 0 [qgN 8 0 0], qiC 0 [qgN 8 0 0], qiC 0 [qgN 8 0 0], qoC 3 [qvR 7, qvR 8, qvK (.ofNat 0), qvR 9, qvR 10, qvR 11], qiC 0 [qgN 6 0 0], qiC 0 [qgN 6 0 0], qiC 0 [qgN 8 0 0], qiC 0 [qgN 8 0 0], qiC 0 [qgN 8 0 0]]
noncomputable def c136_0 : Ct := (136, 1, (0, [], [], [qvR 0, qvR 6], zh577, []),
  [((0, [], [], [], zh577, []), 0, 0)])
noncomputable def c136_0_e : List Ct := []
noncomputable def c136_0_pts : List PE := []
set_option maxRecDepth 100000 in
theorem c136_0_k : enCtF c136_0 c136_0_e (pkP (c136_0_pts ++ []) []) (none) noH 3000 = true := by decide +kernel
set_option maxRecDepth 100000 in
theorem c136_0_v : ValidC PPk c136_0 := ct_ok fpk noH_ok (d := 0) (ext := []) (pts := c136_0_pts) (env := c136_0_e) rfl (fun _ h => (by cases h)) ext_nil (fun q h => (by cases h)) (enF c136_0_k) (fun _ h => (by cases h))

noncomputable def zh578 : AH := [zc1, qiC 0 [qgN 6 0 0], qiC 0 [qgN 6 0 0], qiC 0 [qgN 6 0 0], qiC 0 [qgN 6 0 0], qoC 4 [qvK (.ofNat 0), qvR 6, qvR 7, qvR 8, qvR 9], qiC 0 [qgN 6 0 0], qiC 0 [qgN 6 0 0], qiC 0 [qgN 6 0 0], qiC 0 [qgN 6 0 0]]
noncomputable def c137_0 : Ct := (137, 1, (0, [], [], [qvR 0, qvR 5], zh578, []),
  [((0, [], [], [], zh578, []), 0, 0)])
noncomputable def c137_0_e : List Ct := []
noncomputable def c137_0_pts : List PE := []
set_option maxRecDepth 100000 in
theorem c137_0_k : enCtF c137_0 c137_0_e (pkP (c137_0_pts ++ []) []) (none) noH 3000 = true := by decide +kernel
set_option maxRecDepth 100000 in
theorem c137_0_v : ValidC PPk c137_0 := ct_ok fpk noH_ok (d := 0) (ext := []) (pts := c137_0_pts) (env := c137_0_e) rfl (fun _ h => (by cases h)) ext_nil (fun q h => (by cases h)) (enF c137_0_k) (fun _ h => (by cases h))

noncomputable def zc579 : AC := qoC 5 [qvK (.ofNat 0), qvR 5, qvK (.ofNat 1), qvK (.ofNat 0), qvK (.ofNat 0), qvR 6, qvR 7]
noncomputable def c138_0 : Ct := (138, 75, (1, [], [], [qvR 0, qvR 4], [zc3, qiC 2 [qgN 60 0 0], qiC 0 [qgN 60 0 0], qjC 1 1000000060, zc579, qiC 2 [qgN 60 0 0], qkC 100 0, qjC 1 1000000060], []),
  [((4, [qtA 1, qtN 2 0 60, qtN 3 0 60], [], [], [qoC 5 [qvK (.ofNat 0), qvR 1, qvS 1, qvS 2, qvS 3, qvR 2, qvR 3], qiC 2 [qgN 60 0 127], qiC 0 [qgA 60], qjC 1 60, zc579, qiC 2 [qgN 60 0 0], qkC 100 0, qjC 1 1000000060], []), 0, 0)])
noncomputable def c138_0_e : List Ct := [c33_0]
noncomputable def c138_0_pts : List PE := []
set_option maxRecDepth 100000 in
theorem c138_0_k : enCtF c138_0 c138_0_e (pkP (c138_0_pts ++ []) []) (none) noH 3000 = true := by decide +kernel
set_option maxRecDepth 100000 in
theorem c138_0_v : ValidC PPk c138_0 := ct_ok fpk noH_ok (d := 74) (ext := []) (pts := c138_0_pts) (env := c138_0_e) rfl (List.forall_mem_cons.mpr ⟨⟨c33_0_v, Nat.le_of_ble_eq_true rfl⟩, fun _ h => (by cases h)⟩) ext_nil (fun q h => (by cases h)) (enF c138_0_k) (fun _ h => (by cases h))

noncomputable def zh580 : AH := [zc5, qiC 0 [qgN 8 0 0], qiC 0 [qgN 8 0 0], qiC 0 [qgN 8 0 0], qiC 0 [qgN 8 0 0], qiC 0 [qgN 8 0 0], qoC 6 [qvK (.ofNat 0), qvR 7, qvR 8, qvR 9, qvR 10, qvR 11], qiC 0 [qgN 8 0 0], qiC 0 [qgN 8 0 0], qiC 0 [qgN 8 0 0], qiC 0 [qgN 8 0 0], qiC 0 [qgN 8 0 0]]
noncomputable def c139_0 : Ct := (139, 1, (0, [], [], [qvR 0, qvR 6], zh580, []),
  [((0, [], [], [], zh580, []), 0, 0)])
noncomputable def c139_0_e : List Ct := []
noncomputable def c139_0_pts : List PE := []
set_option maxRecDepth 100000 in
theorem c139_0_k : enCtF c139_0 c139_0_e (pkP (c139_0_pts ++ []) []) (none) noH 3000 = true := by decide +kernel
set_option maxRecDepth 100000 in
theorem c139_0_v : ValidC PPk c139_0 := ct_ok fpk noH_ok (d := 0) (ext := []) (pts := c139_0_pts) (env := c139_0_e) rfl (fun _ h => (by cases h)) ext_nil (fun q h => (by cases h)) (enF c139_0_k) (fun _ h => (by cases h))

noncomputable def zc581 : AC := qoC 1 [qvK (.ofNat 3), qvR 41, qvR 52, qvR 58, qvR 59, qvK (.ofNat 3), qvK (.ofNat 5), qvR 60, qvK (.ofNat 100), qvK (.ofNat 0), qvR 65, qvR 66, qvR 67, qvR 71, qvK (.ofNat 0), qvR 77, qvR 78, qvR 79]
noncomputable def zc582 : AC := qrC 4 [some 42, some 47]
noncomputable def zc583 : AC := qoC 2 [qvK (.ofNat 0), qvR 43, qvR 44, qvR 45, qvR 46]
noncomputable def zc584 : AC := qoC 2 [qvK (.ofNat 0), qvR 48, qvR 49, qvR 50, qvR 51]
noncomputable def zc585 : AC := qoC 3 [qvR 53, qvR 54, qvK (.ofNat 0), qvR 55, qvR 56, qvR 57]
noncomputable def zc586 : AC := qoC 4 [qvK (.ofNat 0), qvR 61, qvR 62, qvR 63, qvR 64]
noncomputable def zc587 : AC := qoC 5 [qvK (.ofNat 0), qvR 68, qvK (.ofNat 1), qvK (.ofNat 0), qvK (.ofNat 0), qvR 69, qvR 70]
noncomputable def zc588 : AC := qoC 6 [qvK (.ofNat 0), qvR 72, qvR 73, qvR 74, qvR 75, qvR 76]
noncomputable def c134_0 : Ct := (134, 76, (1, [], [], [qvR 0, qvR 40], [zc493, qrC 4 [some 2, some 7], zc494, qiC 0 [qgN 60 0 0], qiC 0 [qgN 60 0 0], qiC 0 [qgN 60 0 0], qiC 0 [qgN 60 0 0], zc495, qiC 0 [qgN 60 0 0], qiC 0 [qgN 60 0 0], qiC 0 [qgN 60 0 0], qiC 0 [qgN 60 0 0], zc496, qiC 0 [qgN 6 0 0], qiC 0 [qgN 6 0 0], qiC 0 [qgN 8 0 0], qiC 0 [qgN 8 0 0], qiC 0 [qgN 8 0 0], qiC 0 [qgN 8 0 0], qiC 0 [qgN 8 0 0], zc497, qiC 0 [qgN 6 0 0], qiC 0 [qgN 6 0 0], qiC 0 [qgN 6 0 0], qiC 0 [qgN 6 0 0], zc64, qiC 0 [qgN 4 100 100], zc498, qiC 2 [qgN 60 0 0], qiC 0 [qgN 60 0 0], qjC 1 1000000060, zc499, qiC 0 [qgN 8 0 0], qiC 0 [qgN 8 0 0], qiC 0 [qgN 8 0 0], qiC 0 [qgN 8 0 0], qiC 0 [qgN 8 0 0], qiC 0 [qgN 10 0 0], qiC 0 [qgN 4 0 0], qiC 0 [qgN 4 0 0], zc581, zc582, zc583, qiC 0 [qgN 60 0 0], qiC 0 [qgN 60 0 0], qiC 0 [qgN 60 0 0], qiC 0 [qgN 60 0 0], zc584, qiC 0 [qgN 60 0 0], qiC 0 [qgN 60 0 0], qiC 0 [qgN 60 0 0], qiC 0 [qgN 60 0 0], zc585, qiC 0 [qgN 6 0 0], qiC 0 [qgN 6 0 0], qiC 0 [qgN 8 0 0], qiC 0 [qgN 8 0 0], qiC 0 [qgN 8 0 0], qiC 0 [qgN 8 0 0], qiC 0 [qgN 8 0 0], zc586, qiC 0 [qgN 6 0 0], qiC 0 [qgN 6 0 0], qiC 0 [qgN 6 0 0], qiC 0 [qgN 6 0 0], zc64, qiC 0 [qgN 4 100 100], zc587, qiC 2 [qgN 60 0 0], qkC 100 0, qjC 1 1000000060, zc588, qiC 0 [qgN 8 0 0], qiC 0 [qgN 8 0 0], qiC 0 [qgN 8 0 0], qiC 0 [qgN 8 0 0], qiC 0 [qgN 8 0 0], qiC 0 [qgN 10 0 0], qiC 0 [qgN 4 0 0], qiC 0 [qgN 4 0 0]], []),
  [((4, [qtA 1, qtN 2 0 60, qtN 3 0 60], [], [], [zc493, qrC 4 [some 2, some 7], zc494, qiC 0 [qgN 60 0 0], qiC 0 [qgN 60 0 0], qiC 0 [qgN 60 0 0], qiC 0 [qgN 60 0 0], zc495, qiC 0 [qgN 60 0 0], qiC 0 [qgN 60 0 0], qiC 0 [qgN 60 0 0], qiC 0 [qgN 60 0 0], zc496, qiC 0 [qgN 6 0 0], qiC 0 [qgN 6 0 0], qiC 0 [qgN 8 0 0], qiC 0 [qgN 8 0 0], qiC 0 [qgN 8 0 0], qiC 0 [qgN 8 0 0], qiC 0 [qgN 8 0 0], zc497, qiC 0 [qgN 6 0 0], qiC 0 [qgN 6 0 0], qiC 0 [qgN 6 0 0], qiC 0 [qgN 6 0 0], zc64, qiC 0 [qgN 4 100 100], qoC 5 [qvK (.ofNat 0), qvR 28, qvS 1, qvS 2, qvS 3, qvR 29, qvR 30], qiC 2 [qgN 60 0 127], qiC 0 [qgA 60], qjC 1 60, zc499, qiC 0 [qgN 8 0 0], qiC 0 [qgN 8 0 0], qiC 0 [qgN 8 0 0], qiC 0 [qgN 8 0 0], qiC 0 [qgN 8 0 0], qiC 0 [qgN 10 0 0], qiC 0 [qgN 4 0 0], qiC 0 [qgN 4 0 0], zc581, zc582, zc583, qiC 0 [qgN 60 0 0], qiC 0 [qgN 60 0 0], qiC 0 [qgN 60 0 0], qiC 0 [qgN 60 0 0], zc584, qiC 0 [qgN 60 0 0], qiC 0 [qgN 60 0 0], qiC 0 [qgN 60 0 0], qiC 0 [qgN 60 0 0], zc585, qiC 0 [qgN 6 0 0], qiC 0 [qgN 6 0 0], qiC 0 [qgN 8 0 0], qiC 0 [qgN 8 0 0], qiC 0 [qgN 8 0 0], qiC 0 [qgN 8 0 0], qiC 0 [qgN 8 0 0], zc586, qiC 0 [qgN 6 0 0], qiC 0 [qgN 6 0 0], qiC 0 [qgN 6 0 0], qiC 0 [qgN 6 0 0], zc64, qiC 0 [qgN 4 100 100], zc587, qiC 2 [qgN 60 0 0], qkC 100 0, qjC 1 1000000060, zc588, qiC 0 [qgN 8 0 0], qiC 0 [qgN 8 0 0], qiC 0 [qgN 8 0 0], qiC 0 [qgN 8 0 0], qiC 0 [qgN 8 0 0], qiC 0 [qgN 10 0 0], qiC 0 [qgN 4 0 0], qiC 0 [qgN 4 0 0]], []), 0, 0)])
noncomputable def c134_0_e : List Ct := [c135_0, c136_0, c137_0, c138_0, c139_0]
noncomputable def c134_0_pts : List PE := []
set_option maxRecDepth 100000 in
theorem c134_0_k : enCtF c134_0 c134_0_e (pkP (c134_0_pts ++ []) []) (none) noH 3000 = true := by decide +kernel
set_option maxRecDepth 100000 in
theorem c134_0_v : ValidC PPk c134_0 := ct_ok fpk noH_ok (d := 75) (ext := []) (pts := c134_0_pts) (env := c134_0_e) rfl (List.forall_mem_cons.mpr ⟨⟨c135_0_v, Nat.le_of_ble_eq_true rfl⟩, List.forall_mem_cons.mpr ⟨⟨c136_0_v, Nat.le_of_ble_eq_true rfl⟩, List.forall_mem_cons.mpr ⟨⟨c137_0_v, Nat.le_of_ble_eq_true rfl⟩, List.forall_mem_cons.mpr ⟨⟨c138_0_v, Nat.le_of_ble_eq_true rfl⟩, List.forall_mem_cons.mpr ⟨⟨c139_0_v, Nat.le_of_ble_eq_true rfl⟩, fun _ h => (by cases h)⟩⟩⟩⟩⟩) ext_nil (fun q h => (by cases h)) (enF c134_0_k) (fun _ h => (by cases h))

noncomputable def zc589 : AC := qoC 1 [qvK (.ofNat 3), qvR 63, qvR 64, qvR 70, qvR 71, qvK (.ofNat 3), qvK (.ofNat 5), qvR 72, qvK (.ofNat 100), qvK (.ofNat 0), qvR 77, qvR 78, qvR 79, qvR 83, qvK (.ofNat 0), qvR 89, qvR 90, qvR 91]
noncomputable def zc590 : AC := qrC 4 [some 92, some 97]
noncomputable def zc591 : AC := qoC 3 [qvR 65, qvR 66, qvK (.ofNat 0), qvR 67, qvR 68, qvR 69]
noncomputable def zc592 : AC := qoC 4 [qvK (.ofNat 0), qvR 73, qvR 74, qvR 75, qvR 76]
noncomputable def zc593 : AC := qoC 5 [qvK (.ofNat 0), qvR 80, qvS 1, qvS 2, qvS 3, qvR 81, qvR 82]
noncomputable def zc594 : AC := qoC 6 [qvK (.ofNat 0), qvR 84, qvR 85, qvR 86, qvR 87, qvR 88]
noncomputable def zc595 : AC := qoC 2 [qvK (.ofNat 0), qvR 93, qvR 94, qvR 95, qvR 96]
noncomputable def zc596 : AC := qoC 2 [qvK (.ofNat 0), qvR 98, qvR 99, qvR 100, qvR 101]
noncomputable def zc597 : AC := qoC 7 [qvR 103, qvK (.ofNat 7), qvR 104, qvR 108, qvR 109, qvK (.ofNat 0), qvK (.ofNat 0), qvK (.ofNat 0), qvK (.ofNat 0), qvK (.ofNat 0), qvK (.ofNat 0), qvK (.ofNat 0), qvK (.ofNat 0), qvK (.ofNat 0), qvK (.ofNat 0), qvK (.ofNat 0), qvK (.negSucc 0)]
noncomputable def zc598 : AC := qrC 5 [some 110, some 112, some 114, some 116]
noncomputable def zc599 : AC := qoC 9 [qvR 105, qvR 106, qvR 107, qvK (.ofNat 0)]
noncomputable def zc600 : AC := qoC 8 [qvR 111, qvK (.ofNat 0), qvK (.ofNat 0), qvK (.ofNat 0), qvK (.ofNat 0)]
noncomputable def zc601 : AC := qoC 8 [qvR 113, qvK (.ofNat 0), qvK (.ofNat 0), qvK (.ofNat 0), qvK (.ofNat 0)]
noncomputable def zc602 : AC := qoC 8 [qvR 115, qvK (.ofNat 0), qvK (.ofNat 0), qvK (.ofNat 0), qvK (.ofNat 0)]
noncomputable def zc603 : AC := qoC 8 [qvR 117, qvK (.ofNat 0), qvK (.ofNat 0), qvK (.ofNat 0), qvK (.ofNat 0)]
noncomputable def c133_0 : Ct := (133, 77, (1, [qtA 0], [], [qvR 0, qvS 0], zh43, []),
  [((1, [(0, (.negSucc 2147483647), (.negSucc 0))], [], [qvK (.negSucc 1)], zh43, []), 0, 0),
   ((1, [qtN 0 2 2147483647], [], [qvK (.negSucc 1)], zh43, []), 0, 0),
   ((4, [qtN 0 0 0, qtA 1, qtN 2 0 60, qtN 3 0 60], [], [qvK (.ofNat 1)], [zc23, zc15, qrC 4 [some 3, some 8], zc16, qiC 0 [qgN 60 0 0], qiC 0 [qgN 60 0 0], qiC 0 [qgN 60 0 0], qiC 0 [qgN 60 0 0], zc17, qiC 0 [qgN 60 0 0], qiC 0 [qgN 60 0 0], qiC 0 [qgN 60 0 0], qiC 0 [qgN 60 0 0], zc18, qiC 0 [qgN 6 0 0], qiC 0 [qgN 6 0 0], qiC 0 [qgN 8 0 0], qiC 0 [qgN 8 0 0], qiC 0 [qgN 8 0 0], qiC 0 [qgN 8 0 0], qiC 0 [qgN 8 0 0], zc19, qiC 0 [qgN 6 0 0], qiC 0 [qgN 6 0 0], qiC 0 [qgN 6 0 0], qiC 0 [qgN 6 0 0], zc64, qiC 0 [qgN 4 100 100], zc20, qiC 2 [qgN 60 0 0], qiC 0 [qgN 60 0 0], qjC 1 1000000060, zc21, qiC 0 [qgN 8 0 0], qiC 0 [qgN 8 0 0], qiC 0 [qgN 8 0 0], qiC 0 [qgN 8 0 0], qiC 0 [qgN 8 0 0], qiC 0 [qgN 10 0 0], qiC 0 [qgN 4 0 0], qiC 0 [qgN 4 0 0], zc37, zc38, zc39, qiC 0 [qgN 12 0 0], zc40, qiC 0 [qgN 12 0 0], zc41, qiC 0 [qgN 12 0 0], zc24, qiC 0 [qgN 12 0 0], zc42, qiC 0 [qgN 32 0 0], qiC 0 [qgN 8 0 0], qiC 0 [qgN 8 0 0], qiC 0 [qgN 2 0 0], qiC 0 [qgN 6 0 0], zc26, qjC 1 1000000006, qjC 1 1000000004, qrC 6 [some 62, none], qrC 7 [some 102, none], zc589, zc590, zc591, qiC 0 [qgN 6 0 0], qiC 0 [qgN 6 0 0], qiC 0 [qgN 8 0 0], qiC 0 [qgN 8 0 0], qiC 0 [qgN 8 0 0], qiC 0 [qgN 8 0 0], qiC 0 [qgN 8 0 0], zc592, qiC 0 [qgN 6 0 0], qiC 0 [qgN 6 0 0], qiC 0 [qgN 6 0 0], qiC 0 [qgN 6 0 0], zc64, qiC 0 [qgN 4 100 100], zc593, qiC 2 [qgN 60 0 127], qiC 0 [qgA 60], qjC 1 60, zc594, qiC 0 [qgN 8 0 0], qiC 0 [qgN 8 0 0], qiC 0 [qgN 8 0 0], qiC 0 [qgN 8 0 0], qiC 0 [qgN 8 0 0], qiC 0 [qgN 10 0 0], qiC 0 [qgN 4 0 0], qiC 0 [qgN 4 0 0], zc595, qiC 0 [qgN 60 0 0], qiC 0 [qgN 60 0 0], qiC 0 [qgN 60 0 0], qiC 0 [qgN 60 0 0], zc596, qiC 0 [qgN 60 0 0], qiC 0 [qgN 60 0 0], qiC 0 [qgN 60 0 0], qiC 0 [qgN 60 0 0], zc597, zc598, zc599, qiC 0 [qgN 32 0 0], qiC 0 [qgN 8 0 0], qiC 0 [qgN 8 0 0], qiC 0 [qgN 2 0 0], qiC 0 [qgN 6 0 0], zc600, qiC 0 [qgN 12 0 0], zc601, qiC 0 [qgN 12 0 0], zc602, qiC 0 [qgN 12 0 0], zc603, qiC 0 [qgN 12 0 0]], []), 56, 1005),
   ((4, [qtN 0 1 1, qtA 1, qtN 2 0 60, qtN 3 0 60], [], [qvK (.ofNat 1)], [zc23, zc15, qrC 4 [some 3, some 8], zc16, qiC 0 [qgN 60 0 0], qiC 0 [qgN 60 0 0], qiC 0 [qgN 60 0 0], qiC 0 [qgN 60 0 0], zc17, qiC 0 [qgN 60 0 0], qiC 0 [qgN 60 0 0], qiC 0 [qgN 60 0 0], qiC 0 [qgN 60 0 0], zc18, qiC 0 [qgN 6 0 0], qiC 0 [qgN 6 0 0], qiC 0 [qgN 8 0 0], qiC 0 [qgN 8 0 0], qiC 0 [qgN 8 0 0], qiC 0 [qgN 8 0 0], qiC 0 [qgN 8 0 0], zc19, qiC 0 [qgN 6 0 0], qiC 0 [qgN 6 0 0], qiC 0 [qgN 6 0 0], qiC 0 [qgN 6 0 0], zc64, qiC 0 [qgN 4 100 100], zc20, qiC 2 [qgN 60 0 0], qiC 0 [qgN 60 0 0], qjC 1 1000000060, zc21, qiC 0 [qgN 8 0 0], qiC 0 [qgN 8 0 0], qiC 0 [qgN 8 0 0], qiC 0 [qgN 8 0 0], qiC 0 [qgN 8 0 0], qiC 0 [qgN 10 0 0], qiC 0 [qgN 4 0 0], qiC 0 [qgN 4 0 0], zc37, zc38, zc39, qiC 0 [qgN 12 0 0], zc40, qiC 0 [qgN 12 0 0], zc41, qiC 0 [qgN 12 0 0], zc24, qiC 0 [qgN 12 0 0], zc42, qiC 0 [qgN 32 0 0], qiC 0 [qgN 8 0 0], qiC 0 [qgN 8 0 0], qiC 0 [qgN 2 0 0], qiC 0 [qgN 6 0 0], zc26, qjC 1 1000000006, qjC 1 1000000004, qrC 6 [none, some 62], qrC 7 [none, some 102], zc589, zc590, zc591, qiC 0 [qgN 6 0 0], qiC 0 [qgN 6 0 0], qiC 0 [qgN 8 0 0], qiC 0 [qgN 8 0 0], qiC 0 [qgN 8 0 0], qiC 0 [qgN 8 0 0], qiC 0 [qgN 8 0 0], zc592, qiC 0 [qgN 6 0 0], qiC 0 [qgN 6 0 0], qiC 0 [qgN 6 0 0], qiC 0 [qgN 6 0 0], zc64, qiC 0 [qgN 4 100 100], zc593, qiC 2 [qgN 60 0 127], qiC 0 [qgA 60], qjC 1 60, zc594, qiC 0 [qgN 8 0 0], qiC 0 [qgN 8 0 0], qiC 0 [qgN 8 0 0], qiC 0 [qgN 8 0 0], qiC 0 [qgN 8 0 0], qiC 0 [qgN 10 0 0], qiC 0 [qgN 4 0 0], qiC 0 [qgN 4 0 0], zc595, qiC 0 [qgN 60 0 0], qiC 0 [qgN 60 0 0], qiC 0 [qgN 60 0 0], qiC 0 [qgN 60 0 0], zc596, qiC 0 [qgN 60 0 0], qiC 0 [qgN 60 0 0], qiC 0 [qgN 60 0 0], qiC 0 [qgN 60 0 0], zc597, zc598, zc599, qiC 0 [qgN 32 0 0], qiC 0 [qgN 8 0 0], qiC 0 [qgN 8 0 0], qiC 0 [qgN 2 0 0], qiC 0 [qgN 6 0 0], zc600, qiC 0 [qgN 12 0 0], zc601, qiC 0 [qgN 12 0 0], zc602, qiC 0 [qgN 12 0 0], zc603, qiC 0 [qgN 12 0 0]], []), 56, 1005)])
noncomputable def c133_0_e : List Ct := [c105_0, c12_4, c134_0, c1_0, c7_0]
noncomputable def c133_0_pts : List PE := []
set_option maxRecDepth 100000 in
theorem c133_0_k : enCtF c133_0 c133_0_e (pkP (c133_0_pts ++ []) []) (none) noH 3000 = true := by decide +kernel
set_option maxRecDepth 100000 in
theorem c133_0_v : ValidC PPk c133_0 := ct_ok fpk noH_ok (d := 76) (ext := []) (pts := c133_0_pts) (env := c133_0_e) rfl (List.forall_mem_cons.mpr ⟨⟨c105_0_v, Nat.le_of_ble_eq_true rfl⟩, List.forall_mem_cons.mpr ⟨⟨c12_4_v, Nat.le_of_ble_eq_true rfl⟩, List.forall_mem_cons.mpr ⟨⟨c134_0_v, Nat.le_of_ble_eq_true rfl⟩, List.forall_mem_cons.mpr ⟨⟨c1_0_v, Nat.le_of_ble_eq_true rfl⟩, List.forall_mem_cons.mpr ⟨⟨c7_0_v, Nat.le_of_ble_eq_true rfl⟩, fun _ h => (by cases h)⟩⟩⟩⟩⟩) ext_nil (fun q h => (by cases h)) (enF c133_0_k) (fun _ h => (by cases h))

noncomputable def zh604 : AH := [zc27, zc62, qiC 0 [qgA 1820], qiC 3 [qgA 2], qiC 0 [qgN 70 0 0], qiC 0 [qgN 70 0 0], qiC 0 [qgN 70 0 0], qjC 1 1000000070, qjC 1 1000000008, qiC 0 [qgN 910 0 0], qiC 0 [qgN 910 0 0], qiC 0 [qgN 20 0 0], qiC 0 [qgN 20 0 0], qiC 0 [qgN 910 0 0], qjC 1 1000000004]
noncomputable def c223_0 : Ct := (223, 2, (1, [qtA 0], [], [qvR 0, qvS 0], zh604, []),
  [((1, [(0, (.negSucc 2147483647), (.negSucc 0))], [], [qvK (.negSucc 1)], zh604, []), 0, 0),
   ((1, [qtN 0 2 2147483647], [], [qvK (.negSucc 1)], zh604, []), 0, 0),
   ((1, [qtN 0 0 1], [], [qvK (.ofNat 1)], zh604, []), 0, 0)])
noncomputable def c223_0_e : List Ct := [c145_4]
noncomputable def c223_0_p0 : PE := (21, [0, 1, 2], (2, [qtN 0 0 1, qtN 1 0 910], [], [qvR 0, qvS 0, qvS 1], zh604, []), symsL 1 0, some ((.ofNat 1821), [(1, (.negSucc 0))]), 0, 0)
noncomputable def c223_0_pts : List PE := [c223_0_p0]
set_option maxRecDepth 100000 in
theorem c223_0_k : enCtF c223_0 c223_0_e (pkP (c223_0_pts ++ []) [0]) (none) (noF, noM, 2097152, 0, 1) 3000 = true := by decide +kernel
set_option maxRecDepth 100000 in
theorem c223_0_k0 : ptCtF c223_0 c223_0_e (pkP (c223_0_pts ++ []) [0]) (noF, noM, 2097152, 0, 1) 3000 c223_0_p0 = true := by decide +kernel
set_option maxRecDepth 100000 in
theorem c223_0_v : ValidC PPk c223_0 := ct_ok fpk ⟨noF_ok, noM_ok⟩ (d := 1) (ext := []) (pts := c223_0_pts) (env := c223_0_e) rfl (List.forall_mem_cons.mpr ⟨⟨c145_4_v, Nat.le_of_ble_eq_true rfl⟩, fun _ h => (by cases h)⟩) ext_nil (fun q h => (by cases h)) (enF c223_0_k) (List.forall_mem_cons.mpr ⟨⟨_, ptF c223_0_k0⟩, fun _ h => (by cases h)⟩)

noncomputable def c140_0 : Ct := (140, 2, (1, [qtA 0], [], [qvR 0, qvS 0], zh43, []),
  [((1, [(0, (.negSucc 2147483647), (.negSucc 0))], [], [qvK (.negSucc 1)], zh43, []), 0, 0),
   ((1, [qtN 0 2 2147483647], [], [qvK (.negSucc 1)], zh43, []), 0, 0),
   ((1, [qtN 0 0 0], [], [qvK (.negSucc 2)], zh43, []), 0, 0),
   ((1, [qtN 0 1 1], [], [qvK (.negSucc 2)], zh43, []), 0, 0)])
noncomputable def c140_0_e : List Ct := [c12_4]
noncomputable def c140_0_pts : List PE := []
set_option maxRecDepth 100000 in
theorem c140_0_k : enCtF c140_0 c140_0_e (pkP (c140_0_pts ++ []) []) (none) noH 3000 = true := by decide +kernel
set_option maxRecDepth 100000 in
theorem c140_0_v : ValidC PPk c140_0 := ct_ok fpk noH_ok (d := 1) (ext := []) (pts := c140_0_pts) (env := c140_0_e) rfl (List.forall_mem_cons.mpr ⟨⟨c12_4_v, Nat.le_of_ble_eq_true rfl⟩, fun _ h => (by cases h)⟩) ext_nil (fun q h => (by cases h)) (enF c140_0_k) (fun _ h => (by cases h))

noncomputable def c224_0 : Ct := (224, 2, (1, [qtA 0], [], [qvR 0, qvS 0], zh29, []),
  [((1, [(0, (.negSucc 2147483647), (.negSucc 0))], [], [qvK (.negSucc 1)], zh29, []), 0, 0),
   ((1, [qtN 0 2 2147483647], [], [qvK (.negSucc 1)], zh29, []), 0, 0),
   ((1, [qtN 0 0 1], [], [qvK (.negSucc 2)], zh29, []), 0, 0)])
noncomputable def c224_0_e : List Ct := [c145_4]
noncomputable def c224_0_pts : List PE := []
set_option maxRecDepth 100000 in
theorem c224_0_k : enCtF c224_0 c224_0_e (pkP (c224_0_pts ++ []) []) (none) noH 3000 = true := by decide +kernel
set_option maxRecDepth 100000 in
theorem c224_0_v : ValidC PPk c224_0 := ct_ok fpk noH_ok (d := 1) (ext := []) (pts := c224_0_pts) (env := c224_0_e) rfl (List.forall_mem_cons.mpr ⟨⟨c145_4_v, Nat.le_of_ble_eq_true rfl⟩, fun _ h => (by cases h)⟩) ext_nil (fun q h => (by cases h)) (enF c224_0_k) (fun _ h => (by cases h))

noncomputable def c141_0 : Ct := (141, 1, (1, [qtA 0], [], [qvR 0, qvS 0], zh43, []),
  [((1, [(0, (.negSucc 2147483647), (.negSucc 0))], [], [qvK (.negSucc 1)], zh43, []), 0, 0),
   ((1, [qtN 0 8 2147483647], [], [qvK (.negSucc 1)], zh43, []), 0, 0),
   ((1, [qtN 0 0 0], [], [qvK (.ofNat 3)], zh43, []), 0, 0),
   ((1, [qtN 0 1 1], [], [qvK (.ofNat 0)], zh43, []), 0, 0),
   ((1, [qtN 0 2 2], [], [qvK (.ofNat 0)], zh43, []), 0, 0),
   ((1, [qtN 0 3 3], [], [qvK (.ofNat 0)], zh43, []), 0, 0),
   ((1, [qtN 0 4 4], [], [qvK (.ofNat 0)], zh43, []), 0, 0),
   ((1, [qtN 0 5 5], [], [qvK (.ofNat 0)], zh43, []), 0, 0),
   ((1, [qtN 0 6 6], [], [qvK (.ofNat 0)], zh43, []), 0, 0),
   ((1, [qtN 0 7 7], [], [qvK (.ofNat 0)], zh43, []), 0, 0)])
noncomputable def c141_0_e : List Ct := []
noncomputable def c141_0_pts : List PE := []
set_option maxRecDepth 100000 in
theorem c141_0_k : enCtF c141_0 c141_0_e (pkP (c141_0_pts ++ []) []) (none) noH 3000 = true := by decide +kernel
set_option maxRecDepth 100000 in
theorem c141_0_v : ValidC PPk c141_0 := ct_ok fpk noH_ok (d := 0) (ext := []) (pts := c141_0_pts) (env := c141_0_e) rfl (fun _ h => (by cases h)) ext_nil (fun q h => (by cases h)) (enF c141_0_k) (fun _ h => (by cases h))

noncomputable def c225_0 : Ct := (225, 2, (1, [qtA 0], [], [qvR 0, qvS 0], zh29, []),
  [((1, [(0, (.negSucc 2147483647), (.negSucc 0))], [], [qvK (.negSucc 1)], zh29, []), 0, 0),
   ((1, [qtN 0 8 2147483647], [], [qvK (.negSucc 1)], zh29, []), 0, 0),
   ((1, [qtN 0 0 0], [], [qvK (.ofNat 3)], zh29, []), 0, 0),
   ((1, [qtN 0 1 1], [], [qvK (.ofNat 0)], zh29, []), 0, 0),
   ((1, [qtN 0 2 2], [], [qvK (.ofNat 0)], zh29, []), 0, 0),
   ((1, [qtN 0 3 3], [], [qvK (.ofNat 0)], zh29, []), 0, 0),
   ((1, [qtN 0 4 4], [], [qvK (.ofNat 0)], zh29, []), 0, 0),
   ((1, [qtN 0 5 5], [], [qvK (.ofNat 0)], zh29, []), 0, 0),
   ((1, [qtN 0 6 6], [], [qvK (.ofNat 0)], zh29, []), 0, 0),
   ((1, [qtN 0 7 7], [], [qvK (.ofNat 0)], zh29, []), 0, 0)])
noncomputable def c225_0_e : List Ct := [c145_5]
noncomputable def c225_0_pts : List PE := []
set_option maxRecDepth 100000 in
theorem c225_0_k : enCtF c225_0 c225_0_e (pkP (c225_0_pts ++ []) []) (none) ((hSplit 14 1 ), noM, 0, 16384, 1) 3000 = true := by decide +kernel
set_option maxRecDepth 100000 in
theorem c225_0_v : ValidC PPk c225_0 := ct_ok fpk ⟨(hSplit_ok 14 1 ), noM_ok⟩ (d := 1) (ext := []) (pts := c225_0_pts) (env := c225_0_e) rfl (List.forall_mem_cons.mpr ⟨⟨c145_5_v, Nat.le_of_ble_eq_true rfl⟩, fun _ h => (by cases h)⟩) ext_nil (fun q h => (by cases h)) (enF c225_0_k) (fun _ h => (by cases h))

noncomputable def c142_0 : Ct := (142, 4, (0, [], [], [qvR 0], zh43, []),
  [((0, [], [], [.inl (true, ((.negSucc 8141847831309338121), []))], zh43, []), 0, 0)])
noncomputable def c142_0_e : List Ct := [c141_0, c88_0, c89_0, c91_0, c92_0, c93_0, c98_0]
noncomputable def c142_0_pts : List PE := []
set_option maxRecDepth 100000 in
theorem c142_0_k : enCtF c142_0 c142_0_e (pkP (c142_0_pts ++ []) []) (none) noH 9000 = true := by decide +kernel
set_option maxRecDepth 100000 in
theorem c142_0_v : ValidC PPk c142_0 := ct_ok fpk noH_ok (d := 3) (ext := []) (pts := c142_0_pts) (env := c142_0_e) rfl (List.forall_mem_cons.mpr ⟨⟨c141_0_v, Nat.le_of_ble_eq_true rfl⟩, List.forall_mem_cons.mpr ⟨⟨c88_0_v, Nat.le_of_ble_eq_true rfl⟩, List.forall_mem_cons.mpr ⟨⟨c89_0_v, Nat.le_of_ble_eq_true rfl⟩, List.forall_mem_cons.mpr ⟨⟨c91_0_v, Nat.le_of_ble_eq_true rfl⟩, List.forall_mem_cons.mpr ⟨⟨c92_0_v, Nat.le_of_ble_eq_true rfl⟩, List.forall_mem_cons.mpr ⟨⟨c93_0_v, Nat.le_of_ble_eq_true rfl⟩, List.forall_mem_cons.mpr ⟨⟨c98_0_v, Nat.le_of_ble_eq_true rfl⟩, fun _ h => (by cases h)⟩⟩⟩⟩⟩⟩⟩) ext_nil (fun q h => (by cases h)) (enF c142_0_k) (fun _ h => (by cases h))

noncomputable def c226_0 : Ct := (226, 4, (0, [], [], [qvR 0], zh29, []),
  [((0, [], [], [.inl (true, ((.negSucc 8141847831309338121), []))], zh129, []), 0, 0)])
noncomputable def c226_0_e : List Ct := [c175_0, c175_1, c175_10, c175_11, c175_12, c175_15, c175_17, c175_2, c175_3, c175_5, c175_7, c175_9, c197_0, c206_0]
noncomputable def c226_0_pts : List PE := []
set_option maxRecDepth 100000 in
theorem c226_0_k : enCtF c226_0 c226_0_e (pkP (c226_0_pts ++ []) []) (none) noH 9000 = true := by decide +kernel
set_option maxRecDepth 100000 in
theorem c226_0_v : ValidC PPk c226_0 := ct_ok fpk noH_ok (d := 3) (ext := []) (pts := c226_0_pts) (env := c226_0_e) rfl (List.forall_mem_cons.mpr ⟨⟨c175_0_v, Nat.le_of_ble_eq_true rfl⟩, List.forall_mem_cons.mpr ⟨⟨c175_1_v, Nat.le_of_ble_eq_true rfl⟩, List.forall_mem_cons.mpr ⟨⟨c175_10_v, Nat.le_of_ble_eq_true rfl⟩, List.forall_mem_cons.mpr ⟨⟨c175_11_v, Nat.le_of_ble_eq_true rfl⟩, List.forall_mem_cons.mpr ⟨⟨c175_12_v, Nat.le_of_ble_eq_true rfl⟩, List.forall_mem_cons.mpr ⟨⟨c175_15_v, Nat.le_of_ble_eq_true rfl⟩, List.forall_mem_cons.mpr ⟨⟨c175_17_v, Nat.le_of_ble_eq_true rfl⟩, List.forall_mem_cons.mpr ⟨⟨c175_2_v, Nat.le_of_ble_eq_true rfl⟩, List.forall_mem_cons.mpr ⟨⟨c175_3_v, Nat.le_of_ble_eq_true rfl⟩, List.forall_mem_cons.mpr ⟨⟨c175_5_v, Nat.le_of_ble_eq_true rfl⟩, List.forall_mem_cons.mpr ⟨⟨c175_7_v, Nat.le_of_ble_eq_true rfl⟩, List.forall_mem_cons.mpr ⟨⟨c175_9_v, Nat.le_of_ble_eq_true rfl⟩, List.forall_mem_cons.mpr ⟨⟨c197_0_v, Nat.le_of_ble_eq_true rfl⟩, List.forall_mem_cons.mpr ⟨⟨c206_0_v, Nat.le_of_ble_eq_true rfl⟩, fun _ h => (by cases h)⟩⟩⟩⟩⟩⟩⟩⟩⟩⟩⟩⟩⟩⟩) ext_nil (fun q h => (by cases h)) (enF c226_0_k) (fun _ h => (by cases h))
