/-! ===== contracts, written by wip/vse3/emitlaw.py ===== -/
noncomputable def zh246 : AH := [zc131, zc15, qrC 4 [some 3, some 8], zc16, qkC 100 0, qkC 100 1, qkC 100 2, qkC 100 3, zc17, qkC 100 4, qkC 100 5, qkC 100 6, qkC 100 7, zc18, qkC 100 8, qkC 100 9, qkC 100 10, qkC 100 11, qkC 100 12, qkC 100 13, qkC 100 14, zc19, qkC 100 15, qkC 100 16, qkC 100 17, qkC 100 18, qkC 100 19, qkC 100 20, zc20, qkC 102 21, qkC 100 22, qjC 1 1000000060, zc21, qkC 100 23, qkC 100 24, qkC 100 25, qkC 100 26, qkC 100 27, qkC 100 28, qkC 100 29, qkC 100 30, zc130, qjC 1 1000000006, qjC 1 1000000004, zc241, zc162, zc163, qiC 0 [qgN 12 0 0], zc164, qkC 100 33, zc165, qkC 100 34, zc132, qkC 100 35, zc166, qkC 100 36, qkC 100 37, qkC 100 38, qkC 100 39, qkC 100 40, zc242, zc168, zc169, qiC 0 [qgS 43, qgN 11 0 0], zc170, qkC 100 44, zc171, qkC 100 45, zc133, qkC 100 46, zc172, qkC 100 47, qkC 100 48, qkC 100 49, qkC 100 50, qkC 100 51, qkC 100 52, qkC 100 53]
noncomputable def c110_1 : Ct := (110, 3, (54, [qtA 31, qtN 32 0 1001, qtA 41, qtN 42 0 1001, qtN 43 1 1073741824], [], [qvR 0], zh246, []),
  [((54, [], [], [qvK (.ofNat 3)], zh246, []), 0, 0)])
noncomputable def c110_1_e : List Ct := [c111_1]
noncomputable def c110_1_pts : List PE := []
set_option maxRecDepth 100000 in
theorem c110_1_k : enCtF c110_1 c110_1_e (pkP (c110_1_pts ++ []) []) (none) noH 3000 = true := by decide +kernel
set_option maxRecDepth 100000 in
theorem c110_1_v : ValidC PPk c110_1 := ct_ok fpk noH_ok (d := 2) (ext := []) (pts := c110_1_pts) (env := c110_1_e) rfl (List.forall_mem_cons.mpr ⟨⟨c111_1_v, Nat.le_of_ble_eq_true rfl⟩, fun _ h => (by cases h)⟩) ext_nil (fun q h => (by cases h)) (enF c110_1_k) (fun _ h => (by cases h))

noncomputable def zc247 : AC := qiC 0 [qgN 1 0 0, .inr (1, (.negSucc 2147483647), (.negSucc 2147483647)), qgN 10 0 0]
noncomputable def zh248 : AH := [zc12, qiC 0 [qgN 12 0 0], zc32, zc247]
noncomputable def c112_2 : Ct := (112, 1, (0, [], [], [qvR 0, qvR 2], zh248, []),
  [((0, [], [], [qvK (.ofNat 0)], zh248, []), 0, 0)])
noncomputable def c112_2_e : List Ct := []
noncomputable def c112_2_pts : List PE := []
set_option maxRecDepth 100000 in
theorem c112_2_k : enCtF c112_2 c112_2_e (pkP (c112_2_pts ++ []) []) (none) noH 9000 = true := by decide +kernel
set_option maxRecDepth 100000 in
theorem c112_2_v : ValidC PPk c112_2 := ct_ok fpk noH_ok (d := 0) (ext := []) (pts := c112_2_pts) (env := c112_2_e) rfl (fun _ h => (by cases h)) ext_nil (fun q h => (by cases h)) (enF c112_2_k) (fun _ h => (by cases h))

noncomputable def zh249 : AH := [zc98, zc31, zc32, qiC 0 [qgN 12 0 0], zc33, qkC 100 2, zc34, qkC 100 3, zc14, qkC 100 4, zc35, qkC 100 5, qkC 100 6, qkC 100 7, qkC 100 8, qkC 100 9, zc239, zc156, zc157, zc247, zc158, qkC 100 12, zc159, qkC 100 13, zc160, qkC 100 14, zc161, qkC 100 15, qkC 100 16, qkC 100 17, qkC 100 18, qkC 100 19]
noncomputable def c111_2 : Ct := (111, 2, (20, [qtA 0, qtN 1 0 1001, qtA 10, qtN 11 0 1001], [], [qvR 0, qvR 16], zh249, []),
  [((20, [], [], [qvK (.ofNat 0)], zh249, []), 0, 0)])
noncomputable def c111_2_e : List Ct := [c112_2]
noncomputable def c111_2_pts : List PE := []
set_option maxRecDepth 100000 in
theorem c111_2_k : enCtF c111_2 c111_2_e (pkP (c111_2_pts ++ []) []) (none) noH 9000 = true := by decide +kernel
set_option maxRecDepth 100000 in
theorem c111_2_v : ValidC PPk c111_2 := ct_ok fpk noH_ok (d := 1) (ext := []) (pts := c111_2_pts) (env := c111_2_e) rfl (List.forall_mem_cons.mpr ⟨⟨c112_2_v, Nat.le_of_ble_eq_true rfl⟩, fun _ h => (by cases h)⟩) ext_nil (fun q h => (by cases h)) (enF c111_2_k) (fun _ h => (by cases h))

noncomputable def zh250 : AH := [zc131, zc15, qrC 4 [some 3, some 8], zc16, qkC 100 0, qkC 100 1, qkC 100 2, qkC 100 3, zc17, qkC 100 4, qkC 100 5, qkC 100 6, qkC 100 7, zc18, qkC 100 8, qkC 100 9, qkC 100 10, qkC 100 11, qkC 100 12, qkC 100 13, qkC 100 14, zc19, qkC 100 15, qkC 100 16, qkC 100 17, qkC 100 18, qkC 100 19, qkC 100 20, zc20, qkC 102 21, qkC 100 22, qjC 1 1000000060, zc21, qkC 100 23, qkC 100 24, qkC 100 25, qkC 100 26, qkC 100 27, qkC 100 28, qkC 100 29, qkC 100 30, zc130, qjC 1 1000000006, qjC 1 1000000004, zc241, zc162, zc163, qiC 0 [qgN 12 0 0], zc164, qkC 100 33, zc165, qkC 100 34, zc132, qkC 100 35, zc166, qkC 100 36, qkC 100 37, qkC 100 38, qkC 100 39, qkC 100 40, zc242, zc168, zc169, zc247, zc170, qkC 100 43, zc171, qkC 100 44, zc133, qkC 100 45, zc172, qkC 100 46, qkC 100 47, qkC 100 48, qkC 100 49, qkC 100 50, qkC 100 51, qkC 100 52]
noncomputable def c110_2 : Ct := (110, 3, (53, [qtA 31, qtN 32 0 1001, qtA 41, qtN 42 0 1001], [], [qvR 0], zh250, []),
  [((53, [], [], [qvK (.ofNat 3)], zh250, []), 0, 0)])
noncomputable def c110_2_e : List Ct := [c111_2]
noncomputable def c110_2_pts : List PE := []
set_option maxRecDepth 100000 in
theorem c110_2_k : enCtF c110_2 c110_2_e (pkP (c110_2_pts ++ []) []) (none) noH 3000 = true := by decide +kernel
set_option maxRecDepth 100000 in
theorem c110_2_v : ValidC PPk c110_2 := ct_ok fpk noH_ok (d := 2) (ext := []) (pts := c110_2_pts) (env := c110_2_e) rfl (List.forall_mem_cons.mpr ⟨⟨c111_2_v, Nat.le_of_ble_eq_true rfl⟩, fun _ h => (by cases h)⟩) ext_nil (fun q h => (by cases h)) (enF c110_2_k) (fun _ h => (by cases h))

noncomputable def zh251 : AH := [zc12, qiC 0 [qgN 12 0 0], zc32, qiC 0 [qgN 1 0 0, qgS 0, qgN 10 0 0]]
noncomputable def c112_3 : Ct := (112, 1, (1, [qtN 0 1 1073741824], [], [qvR 0, qvR 2], zh251, []),
  [((1, [], [], [qvK (.ofNat 0)], zh251, []), 0, 0)])
noncomputable def c112_3_e : List Ct := []
noncomputable def c112_3_pts : List PE := []
set_option maxRecDepth 100000 in
theorem c112_3_k : enCtF c112_3 c112_3_e (pkP (c112_3_pts ++ []) []) (none) noH 9000 = true := by decide +kernel
set_option maxRecDepth 100000 in
theorem c112_3_v : ValidC PPk c112_3 := ct_ok fpk noH_ok (d := 0) (ext := []) (pts := c112_3_pts) (env := c112_3_e) rfl (fun _ h => (by cases h)) ext_nil (fun q h => (by cases h)) (enF c112_3_k) (fun _ h => (by cases h))

noncomputable def zh252 : AH := [zc98, zc31, zc32, qiC 0 [qgN 12 0 0], zc33, qkC 100 2, zc34, qkC 100 3, zc14, qkC 100 4, zc35, qkC 100 5, qkC 100 6, qkC 100 7, qkC 100 8, qkC 100 9, zc239, zc156, zc157, qiC 0 [qgN 1 0 0, qgS 12, qgN 10 0 0], zc158, qkC 100 13, zc159, qkC 100 14, zc160, qkC 100 15, zc161, qkC 100 16, qkC 100 17, qkC 100 18, qkC 100 19, qkC 100 20]
noncomputable def c111_3 : Ct := (111, 2, (21, [qtA 0, qtN 1 0 1001, qtA 10, qtN 11 0 1001, qtN 12 1 1073741824], [], [qvR 0, qvR 16], zh252, []),
  [((21, [], [], [qvK (.ofNat 0)], zh252, []), 0, 0)])
noncomputable def c111_3_e : List Ct := [c112_3]
noncomputable def c111_3_pts : List PE := []
set_option maxRecDepth 100000 in
theorem c111_3_k : enCtF c111_3 c111_3_e (pkP (c111_3_pts ++ []) []) (none) noH 9000 = true := by decide +kernel
set_option maxRecDepth 100000 in
theorem c111_3_v : ValidC PPk c111_3 := ct_ok fpk noH_ok (d := 1) (ext := []) (pts := c111_3_pts) (env := c111_3_e) rfl (List.forall_mem_cons.mpr ⟨⟨c112_3_v, Nat.le_of_ble_eq_true rfl⟩, fun _ h => (by cases h)⟩) ext_nil (fun q h => (by cases h)) (enF c111_3_k) (fun _ h => (by cases h))

noncomputable def zh253 : AH := [zc131, zc15, qrC 4 [some 3, some 8], zc16, qkC 100 0, qkC 100 1, qkC 100 2, qkC 100 3, zc17, qkC 100 4, qkC 100 5, qkC 100 6, qkC 100 7, zc18, qkC 100 8, qkC 100 9, qkC 100 10, qkC 100 11, qkC 100 12, qkC 100 13, qkC 100 14, zc19, qkC 100 15, qkC 100 16, qkC 100 17, qkC 100 18, qkC 100 19, qkC 100 20, zc20, qkC 102 21, qkC 100 22, qjC 1 1000000060, zc21, qkC 100 23, qkC 100 24, qkC 100 25, qkC 100 26, qkC 100 27, qkC 100 28, qkC 100 29, qkC 100 30, zc130, qjC 1 1000000006, qjC 1 1000000004, zc241, zc162, zc163, qiC 0 [qgN 12 0 0], zc164, qkC 100 33, zc165, qkC 100 34, zc132, qkC 100 35, zc166, qkC 100 36, qkC 100 37, qkC 100 38, qkC 100 39, qkC 100 40, zc242, zc168, zc169, qiC 0 [qgN 1 0 0, qgS 43, qgN 10 0 0], zc170, qkC 100 44, zc171, qkC 100 45, zc133, qkC 100 46, zc172, qkC 100 47, qkC 100 48, qkC 100 49, qkC 100 50, qkC 100 51, qkC 100 52, qkC 100 53]
noncomputable def c110_3 : Ct := (110, 3, (54, [qtA 31, qtN 32 0 1001, qtA 41, qtN 42 0 1001, qtN 43 1 1073741824], [], [qvR 0], zh253, []),
  [((54, [], [], [qvK (.ofNat 3)], zh253, []), 0, 0)])
noncomputable def c110_3_e : List Ct := [c111_3]
noncomputable def c110_3_pts : List PE := []
set_option maxRecDepth 100000 in
theorem c110_3_k : enCtF c110_3 c110_3_e (pkP (c110_3_pts ++ []) []) (none) noH 3000 = true := by decide +kernel
set_option maxRecDepth 100000 in
theorem c110_3_v : ValidC PPk c110_3 := ct_ok fpk noH_ok (d := 2) (ext := []) (pts := c110_3_pts) (env := c110_3_e) rfl (List.forall_mem_cons.mpr ⟨⟨c111_3_v, Nat.le_of_ble_eq_true rfl⟩, fun _ h => (by cases h)⟩) ext_nil (fun q h => (by cases h)) (enF c110_3_k) (fun _ h => (by cases h))

noncomputable def zc254 : AC := qiC 0 [qgN 10 0 0, .inr (1, (.negSucc 2147483647), (.negSucc 2147483647)), qgN 1 0 0]
noncomputable def zh255 : AH := [zc12, qiC 0 [qgN 12 0 0], zc32, zc254]
noncomputable def c112_4 : Ct := (112, 1, (0, [], [], [qvR 0, qvR 2], zh255, []),
  [((0, [], [], [qvK (.ofNat 0)], zh255, []), 0, 0)])
noncomputable def c112_4_e : List Ct := []
noncomputable def c112_4_pts : List PE := []
set_option maxRecDepth 100000 in
theorem c112_4_k : enCtF c112_4 c112_4_e (pkP (c112_4_pts ++ []) []) (none) noH 9000 = true := by decide +kernel
set_option maxRecDepth 100000 in
theorem c112_4_v : ValidC PPk c112_4 := ct_ok fpk noH_ok (d := 0) (ext := []) (pts := c112_4_pts) (env := c112_4_e) rfl (fun _ h => (by cases h)) ext_nil (fun q h => (by cases h)) (enF c112_4_k) (fun _ h => (by cases h))

noncomputable def zh256 : AH := [zc98, zc31, zc32, qiC 0 [qgN 12 0 0], zc33, qkC 100 2, zc34, qkC 100 3, zc14, qkC 100 4, zc35, qkC 100 5, qkC 100 6, qkC 100 7, qkC 100 8, qkC 100 9, zc239, zc156, zc157, zc254, zc158, qkC 100 12, zc159, qkC 100 13, zc160, qkC 100 14, zc161, qkC 100 15, qkC 100 16, qkC 100 17, qkC 100 18, qkC 100 19]
noncomputable def c111_4 : Ct := (111, 2, (20, [qtA 0, qtN 1 0 1001, qtA 10, qtN 11 0 1001], [], [qvR 0, qvR 16], zh256, []),
  [((20, [], [], [qvK (.ofNat 0)], zh256, []), 0, 0)])
noncomputable def c111_4_e : List Ct := [c112_4]
noncomputable def c111_4_pts : List PE := []
set_option maxRecDepth 100000 in
theorem c111_4_k : enCtF c111_4 c111_4_e (pkP (c111_4_pts ++ []) []) (none) noH 9000 = true := by decide +kernel
set_option maxRecDepth 100000 in
theorem c111_4_v : ValidC PPk c111_4 := ct_ok fpk noH_ok (d := 1) (ext := []) (pts := c111_4_pts) (env := c111_4_e) rfl (List.forall_mem_cons.mpr ⟨⟨c112_4_v, Nat.le_of_ble_eq_true rfl⟩, fun _ h => (by cases h)⟩) ext_nil (fun q h => (by cases h)) (enF c111_4_k) (fun _ h => (by cases h))

noncomputable def zh257 : AH := [zc131, zc15, qrC 4 [some 3, some 8], zc16, qkC 100 0, qkC 100 1, qkC 100 2, qkC 100 3, zc17, qkC 100 4, qkC 100 5, qkC 100 6, qkC 100 7, zc18, qkC 100 8, qkC 100 9, qkC 100 10, qkC 100 11, qkC 100 12, qkC 100 13, qkC 100 14, zc19, qkC 100 15, qkC 100 16, qkC 100 17, qkC 100 18, qkC 100 19, qkC 100 20, zc20, qkC 102 21, qkC 100 22, qjC 1 1000000060, zc21, qkC 100 23, qkC 100 24, qkC 100 25, qkC 100 26, qkC 100 27, qkC 100 28, qkC 100 29, qkC 100 30, zc130, qjC 1 1000000006, qjC 1 1000000004, zc241, zc162, zc163, qiC 0 [qgN 12 0 0], zc164, qkC 100 33, zc165, qkC 100 34, zc132, qkC 100 35, zc166, qkC 100 36, qkC 100 37, qkC 100 38, qkC 100 39, qkC 100 40, zc242, zc168, zc169, zc254, zc170, qkC 100 43, zc171, qkC 100 44, zc133, qkC 100 45, zc172, qkC 100 46, qkC 100 47, qkC 100 48, qkC 100 49, qkC 100 50, qkC 100 51, qkC 100 52]
noncomputable def c110_4 : Ct := (110, 3, (53, [qtA 31, qtN 32 0 1001, qtA 41, qtN 42 0 1001], [], [qvR 0], zh257, []),
  [((53, [], [], [qvK (.ofNat 3)], zh257, []), 0, 0)])
noncomputable def c110_4_e : List Ct := [c111_4]
noncomputable def c110_4_pts : List PE := []
set_option maxRecDepth 100000 in
theorem c110_4_k : enCtF c110_4 c110_4_e (pkP (c110_4_pts ++ []) []) (none) noH 3000 = true := by decide +kernel
set_option maxRecDepth 100000 in
theorem c110_4_v : ValidC PPk c110_4 := ct_ok fpk noH_ok (d := 2) (ext := []) (pts := c110_4_pts) (env := c110_4_e) rfl (List.forall_mem_cons.mpr ⟨⟨c111_4_v, Nat.le_of_ble_eq_true rfl⟩, fun _ h => (by cases h)⟩) ext_nil (fun q h => (by cases h)) (enF c110_4_k) (fun _ h => (by cases h))

noncomputable def zh258 : AH := [zc12, qiC 0 [qgN 12 0 0], zc32, qiC 0 [qgN 10 0 0, qgS 0, qgN 1 0 0]]
noncomputable def c112_5 : Ct := (112, 1, (1, [qtN 0 1 1073741824], [], [qvR 0, qvR 2], zh258, []),
  [((1, [], [], [qvK (.ofNat 0)], zh258, []), 0, 0)])
noncomputable def c112_5_e : List Ct := []
noncomputable def c112_5_pts : List PE := []
set_option maxRecDepth 100000 in
theorem c112_5_k : enCtF c112_5 c112_5_e (pkP (c112_5_pts ++ []) []) (none) noH 9000 = true := by decide +kernel
set_option maxRecDepth 100000 in
theorem c112_5_v : ValidC PPk c112_5 := ct_ok fpk noH_ok (d := 0) (ext := []) (pts := c112_5_pts) (env := c112_5_e) rfl (fun _ h => (by cases h)) ext_nil (fun q h => (by cases h)) (enF c112_5_k) (fun _ h => (by cases h))

noncomputable def zh259 : AH := [zc98, zc31, zc32, qiC 0 [qgN 12 0 0], zc33, qkC 100 2, zc34, qkC 100 3, zc14, qkC 100 4, zc35, qkC 100 5, qkC 100 6, qkC 100 7, qkC 100 8, qkC 100 9, zc239, zc156, zc157, qiC 0 [qgN 10 0 0, qgS 12, qgN 1 0 0], zc158, qkC 100 13, zc159, qkC 100 14, zc160, qkC 100 15, zc161, qkC 100 16, qkC 100 17, qkC 100 18, qkC 100 19, qkC 100 20]
noncomputable def c111_5 : Ct := (111, 2, (21, [qtA 0, qtN 1 0 1001, qtA 10, qtN 11 0 1001, qtN 12 1 1073741824], [], [qvR 0, qvR 16], zh259, []),
  [((21, [], [], [qvK (.ofNat 0)], zh259, []), 0, 0)])
noncomputable def c111_5_e : List Ct := [c112_5]
noncomputable def c111_5_pts : List PE := []
set_option maxRecDepth 100000 in
theorem c111_5_k : enCtF c111_5 c111_5_e (pkP (c111_5_pts ++ []) []) (none) noH 9000 = true := by decide +kernel
set_option maxRecDepth 100000 in
theorem c111_5_v : ValidC PPk c111_5 := ct_ok fpk noH_ok (d := 1) (ext := []) (pts := c111_5_pts) (env := c111_5_e) rfl (List.forall_mem_cons.mpr ⟨⟨c112_5_v, Nat.le_of_ble_eq_true rfl⟩, fun _ h => (by cases h)⟩) ext_nil (fun q h => (by cases h)) (enF c111_5_k) (fun _ h => (by cases h))

noncomputable def zh260 : AH := [zc131, zc15, qrC 4 [some 3, some 8], zc16, qkC 100 0, qkC 100 1, qkC 100 2, qkC 100 3, zc17, qkC 100 4, qkC 100 5, qkC 100 6, qkC 100 7, zc18, qkC 100 8, qkC 100 9, qkC 100 10, qkC 100 11, qkC 100 12, qkC 100 13, qkC 100 14, zc19, qkC 100 15, qkC 100 16, qkC 100 17, qkC 100 18, qkC 100 19, qkC 100 20, zc20, qkC 102 21, qkC 100 22, qjC 1 1000000060, zc21, qkC 100 23, qkC 100 24, qkC 100 25, qkC 100 26, qkC 100 27, qkC 100 28, qkC 100 29, qkC 100 30, zc130, qjC 1 1000000006, qjC 1 1000000004, zc241, zc162, zc163, qiC 0 [qgN 12 0 0], zc164, qkC 100 33, zc165, qkC 100 34, zc132, qkC 100 35, zc166, qkC 100 36, qkC 100 37, qkC 100 38, qkC 100 39, qkC 100 40, zc242, zc168, zc169, qiC 0 [qgN 10 0 0, qgS 43, qgN 1 0 0], zc170, qkC 100 44, zc171, qkC 100 45, zc133, qkC 100 46, zc172, qkC 100 47, qkC 100 48, qkC 100 49, qkC 100 50, qkC 100 51, qkC 100 52, qkC 100 53]
noncomputable def c110_5 : Ct := (110, 3, (54, [qtA 31, qtN 32 0 1001, qtA 41, qtN 42 0 1001, qtN 43 1 1073741824], [], [qvR 0], zh260, []),
  [((54, [], [], [qvK (.ofNat 3)], zh260, []), 0, 0)])
noncomputable def c110_5_e : List Ct := [c111_5]
noncomputable def c110_5_pts : List PE := []
set_option maxRecDepth 100000 in
theorem c110_5_k : enCtF c110_5 c110_5_e (pkP (c110_5_pts ++ []) []) (none) noH 3000 = true := by decide +kernel
set_option maxRecDepth 100000 in
theorem c110_5_v : ValidC PPk c110_5 := ct_ok fpk noH_ok (d := 2) (ext := []) (pts := c110_5_pts) (env := c110_5_e) rfl (List.forall_mem_cons.mpr ⟨⟨c111_5_v, Nat.le_of_ble_eq_true rfl⟩, fun _ h => (by cases h)⟩) ext_nil (fun q h => (by cases h)) (enF c110_5_k) (fun _ h => (by cases h))

noncomputable def zc261 : AC := qiC 0 [qgN 11 0 0, .inr (1, (.negSucc 2147483647), (.negSucc 2147483647))]
noncomputable def zh262 : AH := [zc12, qiC 0 [qgN 12 0 0], zc32, zc261]
noncomputable def c112_6 : Ct := (112, 1, (0, [], [], [qvR 0, qvR 2], zh262, []),
  [((0, [], [], [qvK (.ofNat 0)], zh262, []), 0, 0)])
noncomputable def c112_6_e : List Ct := []
noncomputable def c112_6_pts : List PE := []
set_option maxRecDepth 100000 in
theorem c112_6_k : enCtF c112_6 c112_6_e (pkP (c112_6_pts ++ []) []) (none) noH 9000 = true := by decide +kernel
set_option maxRecDepth 100000 in
theorem c112_6_v : ValidC PPk c112_6 := ct_ok fpk noH_ok (d := 0) (ext := []) (pts := c112_6_pts) (env := c112_6_e) rfl (fun _ h => (by cases h)) ext_nil (fun q h => (by cases h)) (enF c112_6_k) (fun _ h => (by cases h))

noncomputable def zh263 : AH := [zc98, zc31, zc32, qiC 0 [qgN 12 0 0], zc33, qkC 100 2, zc34, qkC 100 3, zc14, qkC 100 4, zc35, qkC 100 5, qkC 100 6, qkC 100 7, qkC 100 8, qkC 100 9, zc239, zc156, zc157, zc261, zc158, qkC 100 12, zc159, qkC 100 13, zc160, qkC 100 14, zc161, qkC 100 15, qkC 100 16, qkC 100 17, qkC 100 18, qkC 100 19]
noncomputable def c111_6 : Ct := (111, 2, (20, [qtA 0, qtN 1 0 1001, qtA 10, qtN 11 0 1001], [], [qvR 0, qvR 16], zh263, []),
  [((20, [], [], [qvK (.ofNat 0)], zh263, []), 0, 0)])
noncomputable def c111_6_e : List Ct := [c112_6]
noncomputable def c111_6_pts : List PE := []
set_option maxRecDepth 100000 in
theorem c111_6_k : enCtF c111_6 c111_6_e (pkP (c111_6_pts ++ []) []) (none) noH 9000 = true := by decide +kernel
set_option maxRecDepth 100000 in
theorem c111_6_v : ValidC PPk c111_6 := ct_ok fpk noH_ok (d := 1) (ext := []) (pts := c111_6_pts) (env := c111_6_e) rfl (List.forall_mem_cons.mpr ⟨⟨c112_6_v, Nat.le_of_ble_eq_true rfl⟩, fun _ h => (by cases h)⟩) ext_nil (fun q h => (by cases h)) (enF c111_6_k) (fun _ h => (by cases h))

noncomputable def zh264 : AH := [zc131, zc15, qrC 4 [some 3, some 8], zc16, qkC 100 0, qkC 100 1, qkC 100 2, qkC 100 3, zc17, qkC 100 4, qkC 100 5, qkC 100 6, qkC 100 7, zc18, qkC 100 8, qkC 100 9, qkC 100 10, qkC 100 11, qkC 100 12, qkC 100 13, qkC 100 14, zc19, qkC 100 15, qkC 100 16, qkC 100 17, qkC 100 18, qkC 100 19, qkC 100 20, zc20, qkC 102 21, qkC 100 22, qjC 1 1000000060, zc21, qkC 100 23, qkC 100 24, qkC 100 25, qkC 100 26, qkC 100 27, qkC 100 28, qkC 100 29, qkC 100 30, zc130, qjC 1 1000000006, qjC 1 1000000004, zc241, zc162, zc163, qiC 0 [qgN 12 0 0], zc164, qkC 100 33, zc165, qkC 100 34, zc132, qkC 100 35, zc166, qkC 100 36, qkC 100 37, qkC 100 38, qkC 100 39, qkC 100 40, zc242, zc168, zc169, zc261, zc170, qkC 100 43, zc171, qkC 100 44, zc133, qkC 100 45, zc172, qkC 100 46, qkC 100 47, qkC 100 48, qkC 100 49, qkC 100 50, qkC 100 51, qkC 100 52]
noncomputable def c110_6 : Ct := (110, 3, (53, [qtA 31, qtN 32 0 1001, qtA 41, qtN 42 0 1001], [], [qvR 0], zh264, []),
  [((53, [], [], [qvK (.ofNat 3)], zh264, []), 0, 0)])
noncomputable def c110_6_e : List Ct := [c111_6]
noncomputable def c110_6_pts : List PE := []
set_option maxRecDepth 100000 in
theorem c110_6_k : enCtF c110_6 c110_6_e (pkP (c110_6_pts ++ []) []) (none) noH 3000 = true := by decide +kernel
set_option maxRecDepth 100000 in
theorem c110_6_v : ValidC PPk c110_6 := ct_ok fpk noH_ok (d := 2) (ext := []) (pts := c110_6_pts) (env := c110_6_e) rfl (List.forall_mem_cons.mpr ⟨⟨c111_6_v, Nat.le_of_ble_eq_true rfl⟩, fun _ h => (by cases h)⟩) ext_nil (fun q h => (by cases h)) (enF c110_6_k) (fun _ h => (by cases h))

noncomputable def zh265 : AH := [zc12, qiC 0 [qgN 12 0 0], zc32, qiC 0 [qgN 11 0 0, qgS 0]]
noncomputable def c112_7 : Ct := (112, 1, (1, [qtN 0 1 1073741824], [], [qvR 0, qvR 2], zh265, []),
  [((1, [], [], [qvK (.ofNat 0)], zh265, []), 0, 0)])
noncomputable def c112_7_e : List Ct := []
noncomputable def c112_7_pts : List PE := []
set_option maxRecDepth 100000 in
theorem c112_7_k : enCtF c112_7 c112_7_e (pkP (c112_7_pts ++ []) []) (none) noH 9000 = true := by decide +kernel
set_option maxRecDepth 100000 in
theorem c112_7_v : ValidC PPk c112_7 := ct_ok fpk noH_ok (d := 0) (ext := []) (pts := c112_7_pts) (env := c112_7_e) rfl (fun _ h => (by cases h)) ext_nil (fun q h => (by cases h)) (enF c112_7_k) (fun _ h => (by cases h))

noncomputable def zh266 : AH := [zc98, zc31, zc32, qiC 0 [qgN 12 0 0], zc33, qkC 100 2, zc34, qkC 100 3, zc14, qkC 100 4, zc35, qkC 100 5, qkC 100 6, qkC 100 7, qkC 100 8, qkC 100 9, zc239, zc156, zc157, qiC 0 [qgN 11 0 0, qgS 12], zc158, qkC 100 13, zc159, qkC 100 14, zc160, qkC 100 15, zc161, qkC 100 16, qkC 100 17, qkC 100 18, qkC 100 19, qkC 100 20]
noncomputable def c111_7 : Ct := (111, 2, (21, [qtA 0, qtN 1 0 1001, qtA 10, qtN 11 0 1001, qtN 12 1 1073741824], [], [qvR 0, qvR 16], zh266, []),
  [((21, [], [], [qvK (.ofNat 0)], zh266, []), 0, 0)])
noncomputable def c111_7_e : List Ct := [c112_7]
noncomputable def c111_7_pts : List PE := []
set_option maxRecDepth 100000 in
theorem c111_7_k : enCtF c111_7 c111_7_e (pkP (c111_7_pts ++ []) []) (none) noH 9000 = true := by decide +kernel
set_option maxRecDepth 100000 in
theorem c111_7_v : ValidC PPk c111_7 := ct_ok fpk noH_ok (d := 1) (ext := []) (pts := c111_7_pts) (env := c111_7_e) rfl (List.forall_mem_cons.mpr ⟨⟨c112_7_v, Nat.le_of_ble_eq_true rfl⟩, fun _ h => (by cases h)⟩) ext_nil (fun q h => (by cases h)) (enF c111_7_k) (fun _ h => (by cases h))

noncomputable def zh267 : AH := [zc131, zc15, qrC 4 [some 3, some 8], zc16, qkC 100 0, qkC 100 1, qkC 100 2, qkC 100 3, zc17, qkC 100 4, qkC 100 5, qkC 100 6, qkC 100 7, zc18, qkC 100 8, qkC 100 9, qkC 100 10, qkC 100 11, qkC 100 12, qkC 100 13, qkC 100 14, zc19, qkC 100 15, qkC 100 16, qkC 100 17, qkC 100 18, qkC 100 19, qkC 100 20, zc20, qkC 102 21, qkC 100 22, qjC 1 1000000060, zc21, qkC 100 23, qkC 100 24, qkC 100 25, qkC 100 26, qkC 100 27, qkC 100 28, qkC 100 29, qkC 100 30, zc130, qjC 1 1000000006, qjC 1 1000000004, zc241, zc162, zc163, qiC 0 [qgN 12 0 0], zc164, qkC 100 33, zc165, qkC 100 34, zc132, qkC 100 35, zc166, qkC 100 36, qkC 100 37, qkC 100 38, qkC 100 39, qkC 100 40, zc242, zc168, zc169, qiC 0 [qgN 11 0 0, qgS 43], zc170, qkC 100 44, zc171, qkC 100 45, zc133, qkC 100 46, zc172, qkC 100 47, qkC 100 48, qkC 100 49, qkC 100 50, qkC 100 51, qkC 100 52, qkC 100 53]
noncomputable def c110_7 : Ct := (110, 3, (54, [qtA 31, qtN 32 0 1001, qtA 41, qtN 42 0 1001, qtN 43 1 1073741824], [], [qvR 0], zh267, []),
  [((54, [], [], [qvK (.ofNat 3)], zh267, []), 0, 0)])
noncomputable def c110_7_e : List Ct := [c111_7]
noncomputable def c110_7_pts : List PE := []
set_option maxRecDepth 100000 in
theorem c110_7_k : enCtF c110_7 c110_7_e (pkP (c110_7_pts ++ []) []) (none) noH 3000 = true := by decide +kernel
set_option maxRecDepth 100000 in
theorem c110_7_v : ValidC PPk c110_7 := ct_ok fpk noH_ok (d := 2) (ext := []) (pts := c110_7_pts) (env := c110_7_e) rfl (List.forall_mem_cons.mpr ⟨⟨c111_7_v, Nat.le_of_ble_eq_true rfl⟩, fun _ h => (by cases h)⟩) ext_nil (fun q h => (by cases h)) (enF c110_7_k) (fun _ h => (by cases h))

noncomputable def zc268 : AC := qiC 0 [qgN 2 0 0, .inr (1, (.negSucc 2147483647), (.negSucc 2147483647)), qgN 9 0 0]
noncomputable def zh269 : AH := [zc12, qiC 0 [qgN 12 0 0], zc32, zc268]
noncomputable def c112_8 : Ct := (112, 1, (0, [], [], [qvR 0, qvR 2], zh269, []),
  [((0, [], [], [qvK (.ofNat 0)], zh269, []), 0, 0)])
noncomputable def c112_8_e : List Ct := []
noncomputable def c112_8_pts : List PE := []
set_option maxRecDepth 100000 in
theorem c112_8_k : enCtF c112_8 c112_8_e (pkP (c112_8_pts ++ []) []) (none) noH 9000 = true := by decide +kernel
set_option maxRecDepth 100000 in
theorem c112_8_v : ValidC PPk c112_8 := ct_ok fpk noH_ok (d := 0) (ext := []) (pts := c112_8_pts) (env := c112_8_e) rfl (fun _ h => (by cases h)) ext_nil (fun q h => (by cases h)) (enF c112_8_k) (fun _ h => (by cases h))

noncomputable def zh270 : AH := [zc98, zc31, zc32, qiC 0 [qgN 12 0 0], zc33, qkC 100 2, zc34, qkC 100 3, zc14, qkC 100 4, zc35, qkC 100 5, qkC 100 6, qkC 100 7, qkC 100 8, qkC 100 9, zc239, zc156, zc157, zc268, zc158, qkC 100 12, zc159, qkC 100 13, zc160, qkC 100 14, zc161, qkC 100 15, qkC 100 16, qkC 100 17, qkC 100 18, qkC 100 19]
noncomputable def c111_8 : Ct := (111, 2, (20, [qtA 0, qtN 1 0 1001, qtA 10, qtN 11 0 1001], [], [qvR 0, qvR 16], zh270, []),
  [((20, [], [], [qvK (.ofNat 0)], zh270, []), 0, 0)])
noncomputable def c111_8_e : List Ct := [c112_8]
noncomputable def c111_8_pts : List PE := []
set_option maxRecDepth 100000 in
theorem c111_8_k : enCtF c111_8 c111_8_e (pkP (c111_8_pts ++ []) []) (none) noH 9000 = true := by decide +kernel
set_option maxRecDepth 100000 in
theorem c111_8_v : ValidC PPk c111_8 := ct_ok fpk noH_ok (d := 1) (ext := []) (pts := c111_8_pts) (env := c111_8_e) rfl (List.forall_mem_cons.mpr ⟨⟨c112_8_v, Nat.le_of_ble_eq_true rfl⟩, fun _ h => (by cases h)⟩) ext_nil (fun q h => (by cases h)) (enF c111_8_k) (fun _ h => (by cases h))

noncomputable def zh271 : AH := [zc131, zc15, qrC 4 [some 3, some 8], zc16, qkC 100 0, qkC 100 1, qkC 100 2, qkC 100 3, zc17, qkC 100 4, qkC 100 5, qkC 100 6, qkC 100 7, zc18, qkC 100 8, qkC 100 9, qkC 100 10, qkC 100 11, qkC 100 12, qkC 100 13, qkC 100 14, zc19, qkC 100 15, qkC 100 16, qkC 100 17, qkC 100 18, qkC 100 19, qkC 100 20, zc20, qkC 102 21, qkC 100 22, qjC 1 1000000060, zc21, qkC 100 23, qkC 100 24, qkC 100 25, qkC 100 26, qkC 100 27, qkC 100 28, qkC 100 29, qkC 100 30, zc130, qjC 1 1000000006, qjC 1 1000000004, zc241, zc162, zc163, qiC 0 [qgN 12 0 0], zc164, qkC 100 33, zc165, qkC 100 34, zc132, qkC 100 35, zc166, qkC 100 36, qkC 100 37, qkC 100 38, qkC 100 39, qkC 100 40, zc242, zc168, zc169, zc268, zc170, qkC 100 43, zc171, qkC 100 44, zc133, qkC 100 45, zc172, qkC 100 46, qkC 100 47, qkC 100 48, qkC 100 49, qkC 100 50, qkC 100 51, qkC 100 52]
noncomputable def c110_8 : Ct := (110, 3, (53, [qtA 31, qtN 32 0 1001, qtA 41, qtN 42 0 1001], [], [qvR 0], zh271, []),
  [((53, [], [], [qvK (.ofNat 3)], zh271, []), 0, 0)])
noncomputable def c110_8_e : List Ct := [c111_8]
noncomputable def c110_8_pts : List PE := []
set_option maxRecDepth 100000 in
theorem c110_8_k : enCtF c110_8 c110_8_e (pkP (c110_8_pts ++ []) []) (none) noH 3000 = true := by decide +kernel
set_option maxRecDepth 100000 in
theorem c110_8_v : ValidC PPk c110_8 := ct_ok fpk noH_ok (d := 2) (ext := []) (pts := c110_8_pts) (env := c110_8_e) rfl (List.forall_mem_cons.mpr ⟨⟨c111_8_v, Nat.le_of_ble_eq_true rfl⟩, fun _ h => (by cases h)⟩) ext_nil (fun q h => (by cases h)) (enF c110_8_k) (fun _ h => (by cases h))

noncomputable def zh272 : AH := [zc12, qiC 0 [qgN 12 0 0], zc32, qiC 0 [qgN 2 0 0, qgS 0, qgN 9 0 0]]
noncomputable def c112_9 : Ct := (112, 1, (1, [qtN 0 1 1073741824], [], [qvR 0, qvR 2], zh272, []),
  [((1, [], [], [qvK (.ofNat 0)], zh272, []), 0, 0)])
noncomputable def c112_9_e : List Ct := []
noncomputable def c112_9_pts : List PE := []
set_option maxRecDepth 100000 in
theorem c112_9_k : enCtF c112_9 c112_9_e (pkP (c112_9_pts ++ []) []) (none) noH 9000 = true := by decide +kernel
set_option maxRecDepth 100000 in
theorem c112_9_v : ValidC PPk c112_9 := ct_ok fpk noH_ok (d := 0) (ext := []) (pts := c112_9_pts) (env := c112_9_e) rfl (fun _ h => (by cases h)) ext_nil (fun q h => (by cases h)) (enF c112_9_k) (fun _ h => (by cases h))

noncomputable def zh273 : AH := [zc98, zc31, zc32, qiC 0 [qgN 12 0 0], zc33, qkC 100 2, zc34, qkC 100 3, zc14, qkC 100 4, zc35, qkC 100 5, qkC 100 6, qkC 100 7, qkC 100 8, qkC 100 9, zc239, zc156, zc157, qiC 0 [qgN 2 0 0, qgS 12, qgN 9 0 0], zc158, qkC 100 13, zc159, qkC 100 14, zc160, qkC 100 15, zc161, qkC 100 16, qkC 100 17, qkC 100 18, qkC 100 19, qkC 100 20]
noncomputable def c111_9 : Ct := (111, 2, (21, [qtA 0, qtN 1 0 1001, qtA 10, qtN 11 0 1001, qtN 12 1 1073741824], [], [qvR 0, qvR 16], zh273, []),
  [((21, [], [], [qvK (.ofNat 0)], zh273, []), 0, 0)])
noncomputable def c111_9_e : List Ct := [c112_9]
noncomputable def c111_9_pts : List PE := []
set_option maxRecDepth 100000 in
theorem c111_9_k : enCtF c111_9 c111_9_e (pkP (c111_9_pts ++ []) []) (none) noH 9000 = true := by decide +kernel
set_option maxRecDepth 100000 in
theorem c111_9_v : ValidC PPk c111_9 := ct_ok fpk noH_ok (d := 1) (ext := []) (pts := c111_9_pts) (env := c111_9_e) rfl (List.forall_mem_cons.mpr ⟨⟨c112_9_v, Nat.le_of_ble_eq_true rfl⟩, fun _ h => (by cases h)⟩) ext_nil (fun q h => (by cases h)) (enF c111_9_k) (fun _ h => (by cases h))

noncomputable def zh274 : AH := [zc131, zc15, qrC 4 [some 3, some 8], zc16, qkC 100 0, qkC 100 1, qkC 100 2, qkC 100 3, zc17, qkC 100 4, qkC 100 5, qkC 100 6, qkC 100 7, zc18, qkC 100 8, qkC 100 9, qkC 100 10, qkC 100 11, qkC 100 12, qkC 100 13, qkC 100 14, zc19, qkC 100 15, qkC 100 16, qkC 100 17, qkC 100 18, qkC 100 19, qkC 100 20, zc20, qkC 102 21, qkC 100 22, qjC 1 1000000060, zc21, qkC 100 23, qkC 100 24, qkC 100 25, qkC 100 26, qkC 100 27, qkC 100 28, qkC 100 29, qkC 100 30, zc130, qjC 1 1000000006, qjC 1 1000000004, zc241, zc162, zc163, qiC 0 [qgN 12 0 0], zc164, qkC 100 33, zc165, qkC 100 34, zc132, qkC 100 35, zc166, qkC 100 36, qkC 100 37, qkC 100 38, qkC 100 39, qkC 100 40, zc242, zc168, zc169, qiC 0 [qgN 2 0 0, qgS 43, qgN 9 0 0], zc170, qkC 100 44, zc171, qkC 100 45, zc133, qkC 100 46, zc172, qkC 100 47, qkC 100 48, qkC 100 49, qkC 100 50, qkC 100 51, qkC 100 52, qkC 100 53]
noncomputable def c110_9 : Ct := (110, 3, (54, [qtA 31, qtN 32 0 1001, qtA 41, qtN 42 0 1001, qtN 43 1 1073741824], [], [qvR 0], zh274, []),
  [((54, [], [], [qvK (.ofNat 3)], zh274, []), 0, 0)])
noncomputable def c110_9_e : List Ct := [c111_9]
noncomputable def c110_9_pts : List PE := []
set_option maxRecDepth 100000 in
theorem c110_9_k : enCtF c110_9 c110_9_e (pkP (c110_9_pts ++ []) []) (none) noH 3000 = true := by decide +kernel
set_option maxRecDepth 100000 in
theorem c110_9_v : ValidC PPk c110_9 := ct_ok fpk noH_ok (d := 2) (ext := []) (pts := c110_9_pts) (env := c110_9_e) rfl (List.forall_mem_cons.mpr ⟨⟨c111_9_v, Nat.le_of_ble_eq_true rfl⟩, fun _ h => (by cases h)⟩) ext_nil (fun q h => (by cases h)) (enF c110_9_k) (fun _ h => (by cases h))

noncomputable def zc275 : AC := qiC 0 [qgN 3 0 0, .inr (1, (.negSucc 2147483647), (.negSucc 2147483647)), qgN 8 0 0]
noncomputable def zh276 : AH := [zc12, qiC 0 [qgN 12 0 0], zc32, zc275]
noncomputable def c112_10 : Ct := (112, 1, (0, [], [], [qvR 0, qvR 2], zh276, []),
  [((0, [], [], [qvK (.ofNat 0)], zh276, []), 0, 0)])
noncomputable def c112_10_e : List Ct := []
noncomputable def c112_10_pts : List PE := []
set_option maxRecDepth 100000 in
theorem c112_10_k : enCtF c112_10 c112_10_e (pkP (c112_10_pts ++ []) []) (none) noH 9000 = true := by decide +kernel
set_option maxRecDepth 100000 in
theorem c112_10_v : ValidC PPk c112_10 := ct_ok fpk noH_ok (d := 0) (ext := []) (pts := c112_10_pts) (env := c112_10_e) rfl (fun _ h => (by cases h)) ext_nil (fun q h => (by cases h)) (enF c112_10_k) (fun _ h => (by cases h))

noncomputable def zh277 : AH := [zc98, zc31, zc32, qiC 0 [qgN 12 0 0], zc33, qkC 100 2, zc34, qkC 100 3, zc14, qkC 100 4, zc35, qkC 100 5, qkC 100 6, qkC 100 7, qkC 100 8, qkC 100 9, zc239, zc156, zc157, zc275, zc158, qkC 100 12, zc159, qkC 100 13, zc160, qkC 100 14, zc161, qkC 100 15, qkC 100 16, qkC 100 17, qkC 100 18, qkC 100 19]
noncomputable def c111_10 : Ct := (111, 2, (20, [qtA 0, qtN 1 0 1001, qtA 10, qtN 11 0 1001], [], [qvR 0, qvR 16], zh277, []),
  [((20, [], [], [qvK (.ofNat 0)], zh277, []), 0, 0)])
noncomputable def c111_10_e : List Ct := [c112_10]
noncomputable def c111_10_pts : List PE := []
set_option maxRecDepth 100000 in
theorem c111_10_k : enCtF c111_10 c111_10_e (pkP (c111_10_pts ++ []) []) (none) noH 9000 = true := by decide +kernel
set_option maxRecDepth 100000 in
theorem c111_10_v : ValidC PPk c111_10 := ct_ok fpk noH_ok (d := 1) (ext := []) (pts := c111_10_pts) (env := c111_10_e) rfl (List.forall_mem_cons.mpr ⟨⟨c112_10_v, Nat.le_of_ble_eq_true rfl⟩, fun _ h => (by cases h)⟩) ext_nil (fun q h => (by cases h)) (enF c111_10_k) (fun _ h => (by cases h))

noncomputable def zh278 : AH := [zc131, zc15, qrC 4 [some 3, some 8], zc16, qkC 100 0, qkC 100 1, qkC 100 2, qkC 100 3, zc17, qkC 100 4, qkC 100 5, qkC 100 6, qkC 100 7, zc18, qkC 100 8, qkC 100 9, qkC 100 10, qkC 100 11, qkC 100 12, qkC 100 13, qkC 100 14, zc19, qkC 100 15, qkC 100 16, qkC 100 17, qkC 100 18, qkC 100 19, qkC 100 20, zc20, qkC 102 21, qkC 100 22, qjC 1 1000000060, zc21, qkC 100 23, qkC 100 24, qkC 100 25, qkC 100 26, qkC 100 27, qkC 100 28, qkC 100 29, qkC 100 30, zc130, qjC 1 1000000006, qjC 1 1000000004, zc241, zc162, zc163, qiC 0 [qgN 12 0 0], zc164, qkC 100 33, zc165, qkC 100 34, zc132, qkC 100 35, zc166, qkC 100 36, qkC 100 37, qkC 100 38, qkC 100 39, qkC 100 40, zc242, zc168, zc169, zc275, zc170, qkC 100 43, zc171, qkC 100 44, zc133, qkC 100 45, zc172, qkC 100 46, qkC 100 47, qkC 100 48, qkC 100 49, qkC 100 50, qkC 100 51, qkC 100 52]
noncomputable def c110_10 : Ct := (110, 3, (53, [qtA 31, qtN 32 0 1001, qtA 41, qtN 42 0 1001], [], [qvR 0], zh278, []),
  [((53, [], [], [qvK (.ofNat 3)], zh278, []), 0, 0)])
noncomputable def c110_10_e : List Ct := [c111_10]
noncomputable def c110_10_pts : List PE := []
set_option maxRecDepth 100000 in
theorem c110_10_k : enCtF c110_10 c110_10_e (pkP (c110_10_pts ++ []) []) (none) noH 3000 = true := by decide +kernel
set_option maxRecDepth 100000 in
theorem c110_10_v : ValidC PPk c110_10 := ct_ok fpk noH_ok (d := 2) (ext := []) (pts := c110_10_pts) (env := c110_10_e) rfl (List.forall_mem_cons.mpr ⟨⟨c111_10_v, Nat.le_of_ble_eq_true rfl⟩, fun _ h => (by cases h)⟩) ext_nil (fun q h => (by cases h)) (enF c110_10_k) (fun _ h => (by cases h))

noncomputable def zh279 : AH := [zc12, qiC 0 [qgN 12 0 0], zc32, qiC 0 [qgN 3 0 0, qgS 0, qgN 8 0 0]]
noncomputable def c112_11 : Ct := (112, 1, (1, [qtN 0 1 1073741824], [], [qvR 0, qvR 2], zh279, []),
  [((1, [], [], [qvK (.ofNat 0)], zh279, []), 0, 0)])
noncomputable def c112_11_e : List Ct := []
noncomputable def c112_11_pts : List PE := []
set_option maxRecDepth 100000 in
theorem c112_11_k : enCtF c112_11 c112_11_e (pkP (c112_11_pts ++ []) []) (none) noH 9000 = true := by decide +kernel
set_option maxRecDepth 100000 in
theorem c112_11_v : ValidC PPk c112_11 := ct_ok fpk noH_ok (d := 0) (ext := []) (pts := c112_11_pts) (env := c112_11_e) rfl (fun _ h => (by cases h)) ext_nil (fun q h => (by cases h)) (enF c112_11_k) (fun _ h => (by cases h))

noncomputable def zh280 : AH := [zc98, zc31, zc32, qiC 0 [qgN 12 0 0], zc33, qkC 100 2, zc34, qkC 100 3, zc14, qkC 100 4, zc35, qkC 100 5, qkC 100 6, qkC 100 7, qkC 100 8, qkC 100 9, zc239, zc156, zc157, qiC 0 [qgN 3 0 0, qgS 12, qgN 8 0 0], zc158, qkC 100 13, zc159, qkC 100 14, zc160, qkC 100 15, zc161, qkC 100 16, qkC 100 17, qkC 100 18, qkC 100 19, qkC 100 20]
noncomputable def c111_11 : Ct := (111, 2, (21, [qtA 0, qtN 1 0 1001, qtA 10, qtN 11 0 1001, qtN 12 1 1073741824], [], [qvR 0, qvR 16], zh280, []),
  [((21, [], [], [qvK (.ofNat 0)], zh280, []), 0, 0)])
noncomputable def c111_11_e : List Ct := [c112_11]
noncomputable def c111_11_pts : List PE := []
set_option maxRecDepth 100000 in
theorem c111_11_k : enCtF c111_11 c111_11_e (pkP (c111_11_pts ++ []) []) (none) noH 9000 = true := by decide +kernel
set_option maxRecDepth 100000 in
theorem c111_11_v : ValidC PPk c111_11 := ct_ok fpk noH_ok (d := 1) (ext := []) (pts := c111_11_pts) (env := c111_11_e) rfl (List.forall_mem_cons.mpr ⟨⟨c112_11_v, Nat.le_of_ble_eq_true rfl⟩, fun _ h => (by cases h)⟩) ext_nil (fun q h => (by cases h)) (enF c111_11_k) (fun _ h => (by cases h))

noncomputable def zh281 : AH := [zc131, zc15, qrC 4 [some 3, some 8], zc16, qkC 100 0, qkC 100 1, qkC 100 2, qkC 100 3, zc17, qkC 100 4, qkC 100 5, qkC 100 6, qkC 100 7, zc18, qkC 100 8, qkC 100 9, qkC 100 10, qkC 100 11, qkC 100 12, qkC 100 13, qkC 100 14, zc19, qkC 100 15, qkC 100 16, qkC 100 17, qkC 100 18, qkC 100 19, qkC 100 20, zc20, qkC 102 21, qkC 100 22, qjC 1 1000000060, zc21, qkC 100 23, qkC 100 24, qkC 100 25, qkC 100 26, qkC 100 27, qkC 100 28, qkC 100 29, qkC 100 30, zc130, qjC 1 1000000006, qjC 1 1000000004, zc241, zc162, zc163, qiC 0 [qgN 12 0 0], zc164, qkC 100 33, zc165, qkC 100 34, zc132, qkC 100 35, zc166, qkC 100 36, qkC 100 37, qkC 100 38, qkC 100 39, qkC 100 40, zc242, zc168, zc169, qiC 0 [qgN 3 0 0, qgS 43, qgN 8 0 0], zc170, qkC 100 44, zc171, qkC 100 45, zc133, qkC 100 46, zc172, qkC 100 47, qkC 100 48, qkC 100 49, qkC 100 50, qkC 100 51, qkC 100 52, qkC 100 53]
noncomputable def c110_11 : Ct := (110, 3, (54, [qtA 31, qtN 32 0 1001, qtA 41, qtN 42 0 1001, qtN 43 1 1073741824], [], [qvR 0], zh281, []),
  [((54, [], [], [qvK (.ofNat 3)], zh281, []), 0, 0)])
noncomputable def c110_11_e : List Ct := [c111_11]
noncomputable def c110_11_pts : List PE := []
set_option maxRecDepth 100000 in
theorem c110_11_k : enCtF c110_11 c110_11_e (pkP (c110_11_pts ++ []) []) (none) noH 3000 = true := by decide +kernel
set_option maxRecDepth 100000 in
theorem c110_11_v : ValidC PPk c110_11 := ct_ok fpk noH_ok (d := 2) (ext := []) (pts := c110_11_pts) (env := c110_11_e) rfl (List.forall_mem_cons.mpr ⟨⟨c111_11_v, Nat.le_of_ble_eq_true rfl⟩, fun _ h => (by cases h)⟩) ext_nil (fun q h => (by cases h)) (enF c110_11_k) (fun _ h => (by cases h))

noncomputable def zc282 : AC := qiC 0 [qgN 4 0 0, .inr (1, (.negSucc 2147483647), (.negSucc 2147483647)), qgN 7 0 0]
noncomputable def zh283 : AH := [zc12, qiC 0 [qgN 12 0 0], zc32, zc282]
noncomputable def c112_12 : Ct := (112, 1, (0, [], [], [qvR 0, qvR 2], zh283, []),
  [((0, [], [], [qvK (.ofNat 0)], zh283, []), 0, 0)])
noncomputable def c112_12_e : List Ct := []
noncomputable def c112_12_pts : List PE := []
set_option maxRecDepth 100000 in
theorem c112_12_k : enCtF c112_12 c112_12_e (pkP (c112_12_pts ++ []) []) (none) noH 9000 = true := by decide +kernel
set_option maxRecDepth 100000 in
theorem c112_12_v : ValidC PPk c112_12 := ct_ok fpk noH_ok (d := 0) (ext := []) (pts := c112_12_pts) (env := c112_12_e) rfl (fun _ h => (by cases h)) ext_nil (fun q h => (by cases h)) (enF c112_12_k) (fun _ h => (by cases h))

noncomputable def zh284 : AH := [zc98, zc31, zc32, qiC 0 [qgN 12 0 0], zc33, qkC 100 2, zc34, qkC 100 3, zc14, qkC 100 4, zc35, qkC 100 5, qkC 100 6, qkC 100 7, qkC 100 8, qkC 100 9, zc239, zc156, zc157, zc282, zc158, qkC 100 12, zc159, qkC 100 13, zc160, qkC 100 14, zc161, qkC 100 15, qkC 100 16, qkC 100 17, qkC 100 18, qkC 100 19]
noncomputable def c111_12 : Ct := (111, 2, (20, [qtA 0, qtN 1 0 1001, qtA 10, qtN 11 0 1001], [], [qvR 0, qvR 16], zh284, []),
  [((20, [], [], [qvK (.ofNat 0)], zh284, []), 0, 0)])
noncomputable def c111_12_e : List Ct := [c112_12]
noncomputable def c111_12_pts : List PE := []
set_option maxRecDepth 100000 in
theorem c111_12_k : enCtF c111_12 c111_12_e (pkP (c111_12_pts ++ []) []) (none) noH 9000 = true := by decide +kernel
set_option maxRecDepth 100000 in
theorem c111_12_v : ValidC PPk c111_12 := ct_ok fpk noH_ok (d := 1) (ext := []) (pts := c111_12_pts) (env := c111_12_e) rfl (List.forall_mem_cons.mpr ⟨⟨c112_12_v, Nat.le_of_ble_eq_true rfl⟩, fun _ h => (by cases h)⟩) ext_nil (fun q h => (by cases h)) (enF c111_12_k) (fun _ h => (by cases h))

noncomputable def zh285 : AH := [zc131, zc15, qrC 4 [some 3, some 8], zc16, qkC 100 0, qkC 100 1, qkC 100 2, qkC 100 3, zc17, qkC 100 4, qkC 100 5, qkC 100 6, qkC 100 7, zc18, qkC 100 8, qkC 100 9, qkC 100 10, qkC 100 11, qkC 100 12, qkC 100 13, qkC 100 14, zc19, qkC 100 15, qkC 100 16, qkC 100 17, qkC 100 18, qkC 100 19, qkC 100 20, zc20, qkC 102 21, qkC 100 22, qjC 1 1000000060, zc21, qkC 100 23, qkC 100 24, qkC 100 25, qkC 100 26, qkC 100 27, qkC 100 28, qkC 100 29, qkC 100 30, zc130, qjC 1 1000000006, qjC 1 1000000004, zc241, zc162, zc163, qiC 0 [qgN 12 0 0], zc164, qkC 100 33, zc165, qkC 100 34, zc132, qkC 100 35, zc166, qkC 100 36, qkC 100 37, qkC 100 38, qkC 100 39, qkC 100 40, zc242, zc168, zc169, zc282, zc170, qkC 100 43, zc171, qkC 100 44, zc133, qkC 100 45, zc172, qkC 100 46, qkC 100 47, qkC 100 48, qkC 100 49, qkC 100 50, qkC 100 51, qkC 100 52]
noncomputable def c110_12 : Ct := (110, 3, (53, [qtA 31, qtN 32 0 1001, qtA 41, qtN 42 0 1001], [], [qvR 0], zh285, []),
  [((53, [], [], [qvK (.ofNat 3)], zh285, []), 0, 0)])
noncomputable def c110_12_e : List Ct := [c111_12]
noncomputable def c110_12_pts : List PE := []
set_option maxRecDepth 100000 in
theorem c110_12_k : enCtF c110_12 c110_12_e (pkP (c110_12_pts ++ []) []) (none) noH 3000 = true := by decide +kernel
set_option maxRecDepth 100000 in
theorem c110_12_v : ValidC PPk c110_12 := ct_ok fpk noH_ok (d := 2) (ext := []) (pts := c110_12_pts) (env := c110_12_e) rfl (List.forall_mem_cons.mpr ⟨⟨c111_12_v, Nat.le_of_ble_eq_true rfl⟩, fun _ h => (by cases h)⟩) ext_nil (fun q h => (by cases h)) (enF c110_12_k) (fun _ h => (by cases h))

noncomputable def zh286 : AH := [zc12, qiC 0 [qgN 12 0 0], zc32, qiC 0 [qgN 4 0 0, qgS 0, qgN 7 0 0]]
noncomputable def c112_13 : Ct := (112, 1, (1, [qtN 0 1 1073741824], [], [qvR 0, qvR 2], zh286, []),
  [((1, [], [], [qvK (.ofNat 0)], zh286, []), 0, 0)])
noncomputable def c112_13_e : List Ct := []
noncomputable def c112_13_pts : List PE := []
set_option maxRecDepth 100000 in
theorem c112_13_k : enCtF c112_13 c112_13_e (pkP (c112_13_pts ++ []) []) (none) noH 9000 = true := by decide +kernel
set_option maxRecDepth 100000 in
theorem c112_13_v : ValidC PPk c112_13 := ct_ok fpk noH_ok (d := 0) (ext := []) (pts := c112_13_pts) (env := c112_13_e) rfl (fun _ h => (by cases h)) ext_nil (fun q h => (by cases h)) (enF c112_13_k) (fun _ h => (by cases h))

noncomputable def zh287 : AH := [zc98, zc31, zc32, qiC 0 [qgN 12 0 0], zc33, qkC 100 2, zc34, qkC 100 3, zc14, qkC 100 4, zc35, qkC 100 5, qkC 100 6, qkC 100 7, qkC 100 8, qkC 100 9, zc239, zc156, zc157, qiC 0 [qgN 4 0 0, qgS 12, qgN 7 0 0], zc158, qkC 100 13, zc159, qkC 100 14, zc160, qkC 100 15, zc161, qkC 100 16, qkC 100 17, qkC 100 18, qkC 100 19, qkC 100 20]
noncomputable def c111_13 : Ct := (111, 2, (21, [qtA 0, qtN 1 0 1001, qtA 10, qtN 11 0 1001, qtN 12 1 1073741824], [], [qvR 0, qvR 16], zh287, []),
  [((21, [], [], [qvK (.ofNat 0)], zh287, []), 0, 0)])
noncomputable def c111_13_e : List Ct := [c112_13]
noncomputable def c111_13_pts : List PE := []
set_option maxRecDepth 100000 in
theorem c111_13_k : enCtF c111_13 c111_13_e (pkP (c111_13_pts ++ []) []) (none) noH 9000 = true := by decide +kernel
set_option maxRecDepth 100000 in
theorem c111_13_v : ValidC PPk c111_13 := ct_ok fpk noH_ok (d := 1) (ext := []) (pts := c111_13_pts) (env := c111_13_e) rfl (List.forall_mem_cons.mpr ⟨⟨c112_13_v, Nat.le_of_ble_eq_true rfl⟩, fun _ h => (by cases h)⟩) ext_nil (fun q h => (by cases h)) (enF c111_13_k) (fun _ h => (by cases h))

noncomputable def zh288 : AH := [zc131, zc15, qrC 4 [some 3, some 8], zc16, qkC 100 0, qkC 100 1, qkC 100 2, qkC 100 3, zc17, qkC 100 4, qkC 100 5, qkC 100 6, qkC 100 7, zc18, qkC 100 8, qkC 100 9, qkC 100 10, qkC 100 11, qkC 100 12, qkC 100 13, qkC 100 14, zc19, qkC 100 15, qkC 100 16, qkC 100 17, qkC 100 18, qkC 100 19, qkC 100 20, zc20, qkC 102 21, qkC 100 22, qjC 1 1000000060, zc21, qkC 100 23, qkC 100 24, qkC 100 25, qkC 100 26, qkC 100 27, qkC 100 28, qkC 100 29, qkC 100 30, zc130, qjC 1 1000000006, qjC 1 1000000004, zc241, zc162, zc163, qiC 0 [qgN 12 0 0], zc164, qkC 100 33, zc165, qkC 100 34, zc132, qkC 100 35, zc166, qkC 100 36, qkC 100 37, qkC 100 38, qkC 100 39, qkC 100 40, zc242, zc168, zc169, qiC 0 [qgN 4 0 0, qgS 43, qgN 7 0 0], zc170, qkC 100 44, zc171, qkC 100 45, zc133, qkC 100 46, zc172, qkC 100 47, qkC 100 48, qkC 100 49, qkC 100 50, qkC 100 51, qkC 100 52, qkC 100 53]
noncomputable def c110_13 : Ct := (110, 3, (54, [qtA 31, qtN 32 0 1001, qtA 41, qtN 42 0 1001, qtN 43 1 1073741824], [], [qvR 0], zh288, []),
  [((54, [], [], [qvK (.ofNat 3)], zh288, []), 0, 0)])
noncomputable def c110_13_e : List Ct := [c111_13]
noncomputable def c110_13_pts : List PE := []
set_option maxRecDepth 100000 in
theorem c110_13_k : enCtF c110_13 c110_13_e (pkP (c110_13_pts ++ []) []) (none) noH 3000 = true := by decide +kernel
set_option maxRecDepth 100000 in
theorem c110_13_v : ValidC PPk c110_13 := ct_ok fpk noH_ok (d := 2) (ext := []) (pts := c110_13_pts) (env := c110_13_e) rfl (List.forall_mem_cons.mpr ⟨⟨c111_13_v, Nat.le_of_ble_eq_true rfl⟩, fun _ h => (by cases h)⟩) ext_nil (fun q h => (by cases h)) (enF c110_13_k) (fun _ h => (by cases h))

noncomputable def zc289 : AC := qiC 0 [qgN 5 0 0, .inr (1, (.negSucc 2147483647), (.negSucc 2147483647)), qgN 6 0 0]
noncomputable def zh290 : AH := [zc12, qiC 0 [qgN 12 0 0], zc32, zc289]
noncomputable def c112_14 : Ct := (112, 1, (0, [], [], [qvR 0, qvR 2], zh290, []),
  [((0, [], [], [qvK (.ofNat 0)], zh290, []), 0, 0)])
noncomputable def c112_14_e : List Ct := []
noncomputable def c112_14_pts : List PE := []
set_option maxRecDepth 100000 in
theorem c112_14_k : enCtF c112_14 c112_14_e (pkP (c112_14_pts ++ []) []) (none) noH 9000 = true := by decide +kernel
set_option maxRecDepth 100000 in
theorem c112_14_v : ValidC PPk c112_14 := ct_ok fpk noH_ok (d := 0) (ext := []) (pts := c112_14_pts) (env := c112_14_e) rfl (fun _ h => (by cases h)) ext_nil (fun q h => (by cases h)) (enF c112_14_k) (fun _ h => (by cases h))

noncomputable def zh291 : AH := [zc98, zc31, zc32, qiC 0 [qgN 12 0 0], zc33, qkC 100 2, zc34, qkC 100 3, zc14, qkC 100 4, zc35, qkC 100 5, qkC 100 6, qkC 100 7, qkC 100 8, qkC 100 9, zc239, zc156, zc157, zc289, zc158, qkC 100 12, zc159, qkC 100 13, zc160, qkC 100 14, zc161, qkC 100 15, qkC 100 16, qkC 100 17, qkC 100 18, qkC 100 19]
noncomputable def c111_14 : Ct := (111, 2, (20, [qtA 0, qtN 1 0 1001, qtA 10, qtN 11 0 1001], [], [qvR 0, qvR 16], zh291, []),
  [((20, [], [], [qvK (.ofNat 0)], zh291, []), 0, 0)])
noncomputable def c111_14_e : List Ct := [c112_14]
noncomputable def c111_14_pts : List PE := []
set_option maxRecDepth 100000 in
theorem c111_14_k : enCtF c111_14 c111_14_e (pkP (c111_14_pts ++ []) []) (none) noH 9000 = true := by decide +kernel
set_option maxRecDepth 100000 in
theorem c111_14_v : ValidC PPk c111_14 := ct_ok fpk noH_ok (d := 1) (ext := []) (pts := c111_14_pts) (env := c111_14_e) rfl (List.forall_mem_cons.mpr ⟨⟨c112_14_v, Nat.le_of_ble_eq_true rfl⟩, fun _ h => (by cases h)⟩) ext_nil (fun q h => (by cases h)) (enF c111_14_k) (fun _ h => (by cases h))

noncomputable def zh292 : AH := [zc131, zc15, qrC 4 [some 3, some 8], zc16, qkC 100 0, qkC 100 1, qkC 100 2, qkC 100 3, zc17, qkC 100 4, qkC 100 5, qkC 100 6, qkC 100 7, zc18, qkC 100 8, qkC 100 9, qkC 100 10, qkC 100 11, qkC 100 12, qkC 100 13, qkC 100 14, zc19, qkC 100 15, qkC 100 16, qkC 100 17, qkC 100 18, qkC 100 19, qkC 100 20, zc20, qkC 102 21, qkC 100 22, qjC 1 1000000060, zc21, qkC 100 23, qkC 100 24, qkC 100 25, qkC 100 26, qkC 100 27, qkC 100 28, qkC 100 29, qkC 100 30, zc130, qjC 1 1000000006, qjC 1 1000000004, zc241, zc162, zc163, qiC 0 [qgN 12 0 0], zc164, qkC 100 33, zc165, qkC 100 34, zc132, qkC 100 35, zc166, qkC 100 36, qkC 100 37, qkC 100 38, qkC 100 39, qkC 100 40, zc242, zc168, zc169, zc289, zc170, qkC 100 43, zc171, qkC 100 44, zc133, qkC 100 45, zc172, qkC 100 46, qkC 100 47, qkC 100 48, qkC 100 49, qkC 100 50, qkC 100 51, qkC 100 52]
noncomputable def c110_14 : Ct := (110, 3, (53, [qtA 31, qtN 32 0 1001, qtA 41, qtN 42 0 1001], [], [qvR 0], zh292, []),
  [((53, [], [], [qvK (.ofNat 3)], zh292, []), 0, 0)])
noncomputable def c110_14_e : List Ct := [c111_14]
noncomputable def c110_14_pts : List PE := []
set_option maxRecDepth 100000 in
theorem c110_14_k : enCtF c110_14 c110_14_e (pkP (c110_14_pts ++ []) []) (none) noH 3000 = true := by decide +kernel
set_option maxRecDepth 100000 in
theorem c110_14_v : ValidC PPk c110_14 := ct_ok fpk noH_ok (d := 2) (ext := []) (pts := c110_14_pts) (env := c110_14_e) rfl (List.forall_mem_cons.mpr ⟨⟨c111_14_v, Nat.le_of_ble_eq_true rfl⟩, fun _ h => (by cases h)⟩) ext_nil (fun q h => (by cases h)) (enF c110_14_k) (fun _ h => (by cases h))

noncomputable def zh293 : AH := [zc12, qiC 0 [qgN 12 0 0], zc32, qiC 0 [qgN 5 0 0, qgS 0, qgN 6 0 0]]
noncomputable def c112_15 : Ct := (112, 1, (1, [qtN 0 1 1073741824], [], [qvR 0, qvR 2], zh293, []),
  [((1, [], [], [qvK (.ofNat 0)], zh293, []), 0, 0)])
noncomputable def c112_15_e : List Ct := []
noncomputable def c112_15_pts : List PE := []
set_option maxRecDepth 100000 in
theorem c112_15_k : enCtF c112_15 c112_15_e (pkP (c112_15_pts ++ []) []) (none) noH 9000 = true := by decide +kernel
set_option maxRecDepth 100000 in
theorem c112_15_v : ValidC PPk c112_15 := ct_ok fpk noH_ok (d := 0) (ext := []) (pts := c112_15_pts) (env := c112_15_e) rfl (fun _ h => (by cases h)) ext_nil (fun q h => (by cases h)) (enF c112_15_k) (fun _ h => (by cases h))

noncomputable def zh294 : AH := [zc98, zc31, zc32, qiC 0 [qgN 12 0 0], zc33, qkC 100 2, zc34, qkC 100 3, zc14, qkC 100 4, zc35, qkC 100 5, qkC 100 6, qkC 100 7, qkC 100 8, qkC 100 9, zc239, zc156, zc157, qiC 0 [qgN 5 0 0, qgS 12, qgN 6 0 0], zc158, qkC 100 13, zc159, qkC 100 14, zc160, qkC 100 15, zc161, qkC 100 16, qkC 100 17, qkC 100 18, qkC 100 19, qkC 100 20]
noncomputable def c111_15 : Ct := (111, 2, (21, [qtA 0, qtN 1 0 1001, qtA 10, qtN 11 0 1001, qtN 12 1 1073741824], [], [qvR 0, qvR 16], zh294, []),
  [((21, [], [], [qvK (.ofNat 0)], zh294, []), 0, 0)])
noncomputable def c111_15_e : List Ct := [c112_15]
noncomputable def c111_15_pts : List PE := []
set_option maxRecDepth 100000 in
theorem c111_15_k : enCtF c111_15 c111_15_e (pkP (c111_15_pts ++ []) []) (none) noH 9000 = true := by decide +kernel
set_option maxRecDepth 100000 in
theorem c111_15_v : ValidC PPk c111_15 := ct_ok fpk noH_ok (d := 1) (ext := []) (pts := c111_15_pts) (env := c111_15_e) rfl (List.forall_mem_cons.mpr ⟨⟨c112_15_v, Nat.le_of_ble_eq_true rfl⟩, fun _ h => (by cases h)⟩) ext_nil (fun q h => (by cases h)) (enF c111_15_k) (fun _ h => (by cases h))

noncomputable def zh295 : AH := [zc131, zc15, qrC 4 [some 3, some 8], zc16, qkC 100 0, qkC 100 1, qkC 100 2, qkC 100 3, zc17, qkC 100 4, qkC 100 5, qkC 100 6, qkC 100 7, zc18, qkC 100 8, qkC 100 9, qkC 100 10, qkC 100 11, qkC 100 12, qkC 100 13, qkC 100 14, zc19, qkC 100 15, qkC 100 16, qkC 100 17, qkC 100 18, qkC 100 19, qkC 100 20, zc20, qkC 102 21, qkC 100 22, qjC 1 1000000060, zc21, qkC 100 23, qkC 100 24, qkC 100 25, qkC 100 26, qkC 100 27, qkC 100 28, qkC 100 29, qkC 100 30, zc130, qjC 1 1000000006, qjC 1 1000000004, zc241, zc162, zc163, qiC 0 [qgN 12 0 0], zc164, qkC 100 33, zc165, qkC 100 34, zc132, qkC 100 35, zc166, qkC 100 36, qkC 100 37, qkC 100 38, qkC 100 39, qkC 100 40, zc242, zc168, zc169, qiC 0 [qgN 5 0 0, qgS 43, qgN 6 0 0], zc170, qkC 100 44, zc171, qkC 100 45, zc133, qkC 100 46, zc172, qkC 100 47, qkC 100 48, qkC 100 49, qkC 100 50, qkC 100 51, qkC 100 52, qkC 100 53]
noncomputable def c110_15 : Ct := (110, 3, (54, [qtA 31, qtN 32 0 1001, qtA 41, qtN 42 0 1001, qtN 43 1 1073741824], [], [qvR 0], zh295, []),
  [((54, [], [], [qvK (.ofNat 3)], zh295, []), 0, 0)])
noncomputable def c110_15_e : List Ct := [c111_15]
noncomputable def c110_15_pts : List PE := []
set_option maxRecDepth 100000 in
theorem c110_15_k : enCtF c110_15 c110_15_e (pkP (c110_15_pts ++ []) []) (none) noH 3000 = true := by decide +kernel
set_option maxRecDepth 100000 in
theorem c110_15_v : ValidC PPk c110_15 := ct_ok fpk noH_ok (d := 2) (ext := []) (pts := c110_15_pts) (env := c110_15_e) rfl (List.forall_mem_cons.mpr ⟨⟨c111_15_v, Nat.le_of_ble_eq_true rfl⟩, fun _ h => (by cases h)⟩) ext_nil (fun q h => (by cases h)) (enF c110_15_k) (fun _ h => (by cases h))

noncomputable def zc296 : AC := qiC 0 [qgN 6 0 0, .inr (1, (.negSucc 2147483647), (.negSucc 2147483647)), qgN 5 0 0]
noncomputable def zh297 : AH := [zc12, qiC 0 [qgN 12 0 0], zc32, zc296]
noncomputable def c112_16 : Ct := (112, 1, (0, [], [], [qvR 0, qvR 2], zh297, []),
  [((0, [], [], [qvK (.ofNat 0)], zh297, []), 0, 0)])
noncomputable def c112_16_e : List Ct := []
noncomputable def c112_16_pts : List PE := []
set_option maxRecDepth 100000 in
theorem c112_16_k : enCtF c112_16 c112_16_e (pkP (c112_16_pts ++ []) []) (none) noH 9000 = true := by decide +kernel
set_option maxRecDepth 100000 in
theorem c112_16_v : ValidC PPk c112_16 := ct_ok fpk noH_ok (d := 0) (ext := []) (pts := c112_16_pts) (env := c112_16_e) rfl (fun _ h => (by cases h)) ext_nil (fun q h => (by cases h)) (enF c112_16_k) (fun _ h => (by cases h))

noncomputable def zh298 : AH := [zc98, zc31, zc32, qiC 0 [qgN 12 0 0], zc33, qkC 100 2, zc34, qkC 100 3, zc14, qkC 100 4, zc35, qkC 100 5, qkC 100 6, qkC 100 7, qkC 100 8, qkC 100 9, zc239, zc156, zc157, zc296, zc158, qkC 100 12, zc159, qkC 100 13, zc160, qkC 100 14, zc161, qkC 100 15, qkC 100 16, qkC 100 17, qkC 100 18, qkC 100 19]
noncomputable def c111_16 : Ct := (111, 2, (20, [qtA 0, qtN 1 0 1001, qtA 10, qtN 11 0 1001], [], [qvR 0, qvR 16], zh298, []),
  [((20, [], [], [qvK (.ofNat 0)], zh298, []), 0, 0)])
noncomputable def c111_16_e : List Ct := [c112_16]
noncomputable def c111_16_pts : List PE := []
set_option maxRecDepth 100000 in
theorem c111_16_k : enCtF c111_16 c111_16_e (pkP (c111_16_pts ++ []) []) (none) noH 9000 = true := by decide +kernel
set_option maxRecDepth 100000 in
theorem c111_16_v : ValidC PPk c111_16 := ct_ok fpk noH_ok (d := 1) (ext := []) (pts := c111_16_pts) (env := c111_16_e) rfl (List.forall_mem_cons.mpr ⟨⟨c112_16_v, Nat.le_of_ble_eq_true rfl⟩, fun _ h => (by cases h)⟩) ext_nil (fun q h => (by cases h)) (enF c111_16_k) (fun _ h => (by cases h))

noncomputable def zh299 : AH := [zc131, zc15, qrC 4 [some 3, some 8], zc16, qkC 100 0, qkC 100 1, qkC 100 2, qkC 100 3, zc17, qkC 100 4, qkC 100 5, qkC 100 6, qkC 100 7, zc18, qkC 100 8, qkC 100 9, qkC 100 10, qkC 100 11, qkC 100 12, qkC 100 13, qkC 100 14, zc19, qkC 100 15, qkC 100 16, qkC 100 17, qkC 100 18, qkC 100 19, qkC 100 20, zc20, qkC 102 21, qkC 100 22, qjC 1 1000000060, zc21, qkC 100 23, qkC 100 24, qkC 100 25, qkC 100 26, qkC 100 27, qkC 100 28, qkC 100 29, qkC 100 30, zc130, qjC 1 1000000006, qjC 1 1000000004, zc241, zc162, zc163, qiC 0 [qgN 12 0 0], zc164, qkC 100 33, zc165, qkC 100 34, zc132, qkC 100 35, zc166, qkC 100 36, qkC 100 37, qkC 100 38, qkC 100 39, qkC 100 40, zc242, zc168, zc169, zc296, zc170, qkC 100 43, zc171, qkC 100 44, zc133, qkC 100 45, zc172, qkC 100 46, qkC 100 47, qkC 100 48, qkC 100 49, qkC 100 50, qkC 100 51, qkC 100 52]
noncomputable def c110_16 : Ct := (110, 3, (53, [qtA 31, qtN 32 0 1001, qtA 41, qtN 42 0 1001], [], [qvR 0], zh299, []),
  [((53, [], [], [qvK (.ofNat 3)], zh299, []), 0, 0)])
noncomputable def c110_16_e : List Ct := [c111_16]
noncomputable def c110_16_pts : List PE := []
set_option maxRecDepth 100000 in
theorem c110_16_k : enCtF c110_16 c110_16_e (pkP (c110_16_pts ++ []) []) (none) noH 3000 = true := by decide +kernel
set_option maxRecDepth 100000 in
theorem c110_16_v : ValidC PPk c110_16 := ct_ok fpk noH_ok (d := 2) (ext := []) (pts := c110_16_pts) (env := c110_16_e) rfl (List.forall_mem_cons.mpr ⟨⟨c111_16_v, Nat.le_of_ble_eq_true rfl⟩, fun _ h => (by cases h)⟩) ext_nil (fun q h => (by cases h)) (enF c110_16_k) (fun _ h => (by cases h))

noncomputable def zh300 : AH := [zc12, qiC 0 [qgN 12 0 0], zc32, qiC 0 [qgN 6 0 0, qgS 0, qgN 5 0 0]]
noncomputable def c112_17 : Ct := (112, 1, (1, [qtN 0 1 1073741824], [], [qvR 0, qvR 2], zh300, []),
  [((1, [], [], [qvK (.ofNat 0)], zh300, []), 0, 0)])
noncomputable def c112_17_e : List Ct := []
noncomputable def c112_17_pts : List PE := []
set_option maxRecDepth 100000 in
theorem c112_17_k : enCtF c112_17 c112_17_e (pkP (c112_17_pts ++ []) []) (none) noH 9000 = true := by decide +kernel
set_option maxRecDepth 100000 in
theorem c112_17_v : ValidC PPk c112_17 := ct_ok fpk noH_ok (d := 0) (ext := []) (pts := c112_17_pts) (env := c112_17_e) rfl (fun _ h => (by cases h)) ext_nil (fun q h => (by cases h)) (enF c112_17_k) (fun _ h => (by cases h))

noncomputable def zh301 : AH := [zc98, zc31, zc32, qiC 0 [qgN 12 0 0], zc33, qkC 100 2, zc34, qkC 100 3, zc14, qkC 100 4, zc35, qkC 100 5, qkC 100 6, qkC 100 7, qkC 100 8, qkC 100 9, zc239, zc156, zc157, qiC 0 [qgN 6 0 0, qgS 12, qgN 5 0 0], zc158, qkC 100 13, zc159, qkC 100 14, zc160, qkC 100 15, zc161, qkC 100 16, qkC 100 17, qkC 100 18, qkC 100 19, qkC 100 20]
noncomputable def c111_17 : Ct := (111, 2, (21, [qtA 0, qtN 1 0 1001, qtA 10, qtN 11 0 1001, qtN 12 1 1073741824], [], [qvR 0, qvR 16], zh301, []),
  [((21, [], [], [qvK (.ofNat 0)], zh301, []), 0, 0)])
noncomputable def c111_17_e : List Ct := [c112_17]
noncomputable def c111_17_pts : List PE := []
set_option maxRecDepth 100000 in
theorem c111_17_k : enCtF c111_17 c111_17_e (pkP (c111_17_pts ++ []) []) (none) noH 9000 = true := by decide +kernel
set_option maxRecDepth 100000 in
theorem c111_17_v : ValidC PPk c111_17 := ct_ok fpk noH_ok (d := 1) (ext := []) (pts := c111_17_pts) (env := c111_17_e) rfl (List.forall_mem_cons.mpr ⟨⟨c112_17_v, Nat.le_of_ble_eq_true rfl⟩, fun _ h => (by cases h)⟩) ext_nil (fun q h => (by cases h)) (enF c111_17_k) (fun _ h => (by cases h))

noncomputable def zh302 : AH := [zc131, zc15, qrC 4 [some 3, some 8], zc16, qkC 100 0, qkC 100 1, qkC 100 2, qkC 100 3, zc17, qkC 100 4, qkC 100 5, qkC 100 6, qkC 100 7, zc18, qkC 100 8, qkC 100 9, qkC 100 10, qkC 100 11, qkC 100 12, qkC 100 13, qkC 100 14, zc19, qkC 100 15, qkC 100 16, qkC 100 17, qkC 100 18, qkC 100 19, qkC 100 20, zc20, qkC 102 21, qkC 100 22, qjC 1 1000000060, zc21, qkC 100 23, qkC 100 24, qkC 100 25, qkC 100 26, qkC 100 27, qkC 100 28, qkC 100 29, qkC 100 30, zc130, qjC 1 1000000006, qjC 1 1000000004, zc241, zc162, zc163, qiC 0 [qgN 12 0 0], zc164, qkC 100 33, zc165, qkC 100 34, zc132, qkC 100 35, zc166, qkC 100 36, qkC 100 37, qkC 100 38, qkC 100 39, qkC 100 40, zc242, zc168, zc169, qiC 0 [qgN 6 0 0, qgS 43, qgN 5 0 0], zc170, qkC 100 44, zc171, qkC 100 45, zc133, qkC 100 46, zc172, qkC 100 47, qkC 100 48, qkC 100 49, qkC 100 50, qkC 100 51, qkC 100 52, qkC 100 53]
noncomputable def c110_17 : Ct := (110, 3, (54, [qtA 31, qtN 32 0 1001, qtA 41, qtN 42 0 1001, qtN 43 1 1073741824], [], [qvR 0], zh302, []),
  [((54, [], [], [qvK (.ofNat 3)], zh302, []), 0, 0)])
noncomputable def c110_17_e : List Ct := [c111_17]
noncomputable def c110_17_pts : List PE := []
set_option maxRecDepth 100000 in
theorem c110_17_k : enCtF c110_17 c110_17_e (pkP (c110_17_pts ++ []) []) (none) noH 3000 = true := by decide +kernel
set_option maxRecDepth 100000 in
theorem c110_17_v : ValidC PPk c110_17 := ct_ok fpk noH_ok (d := 2) (ext := []) (pts := c110_17_pts) (env := c110_17_e) rfl (List.forall_mem_cons.mpr ⟨⟨c111_17_v, Nat.le_of_ble_eq_true rfl⟩, fun _ h => (by cases h)⟩) ext_nil (fun q h => (by cases h)) (enF c110_17_k) (fun _ h => (by cases h))

noncomputable def zc303 : AC := qiC 0 [qgN 7 0 0, .inr (1, (.negSucc 2147483647), (.negSucc 2147483647)), qgN 4 0 0]
noncomputable def zh304 : AH := [zc12, qiC 0 [qgN 12 0 0], zc32, zc303]
noncomputable def c112_18 : Ct := (112, 1, (0, [], [], [qvR 0, qvR 2], zh304, []),
  [((0, [], [], [qvK (.ofNat 0)], zh304, []), 0, 0)])
noncomputable def c112_18_e : List Ct := []
noncomputable def c112_18_pts : List PE := []
set_option maxRecDepth 100000 in
theorem c112_18_k : enCtF c112_18 c112_18_e (pkP (c112_18_pts ++ []) []) (none) noH 9000 = true := by decide +kernel
set_option maxRecDepth 100000 in
theorem c112_18_v : ValidC PPk c112_18 := ct_ok fpk noH_ok (d := 0) (ext := []) (pts := c112_18_pts) (env := c112_18_e) rfl (fun _ h => (by cases h)) ext_nil (fun q h => (by cases h)) (enF c112_18_k) (fun _ h => (by cases h))

noncomputable def zh305 : AH := [zc98, zc31, zc32, qiC 0 [qgN 12 0 0], zc33, qkC 100 2, zc34, qkC 100 3, zc14, qkC 100 4, zc35, qkC 100 5, qkC 100 6, qkC 100 7, qkC 100 8, qkC 100 9, zc239, zc156, zc157, zc303, zc158, qkC 100 12, zc159, qkC 100 13, zc160, qkC 100 14, zc161, qkC 100 15, qkC 100 16, qkC 100 17, qkC 100 18, qkC 100 19]
noncomputable def c111_18 : Ct := (111, 2, (20, [qtA 0, qtN 1 0 1001, qtA 10, qtN 11 0 1001], [], [qvR 0, qvR 16], zh305, []),
  [((20, [], [], [qvK (.ofNat 0)], zh305, []), 0, 0)])
noncomputable def c111_18_e : List Ct := [c112_18]
noncomputable def c111_18_pts : List PE := []
set_option maxRecDepth 100000 in
theorem c111_18_k : enCtF c111_18 c111_18_e (pkP (c111_18_pts ++ []) []) (none) noH 9000 = true := by decide +kernel
set_option maxRecDepth 100000 in
theorem c111_18_v : ValidC PPk c111_18 := ct_ok fpk noH_ok (d := 1) (ext := []) (pts := c111_18_pts) (env := c111_18_e) rfl (List.forall_mem_cons.mpr ⟨⟨c112_18_v, Nat.le_of_ble_eq_true rfl⟩, fun _ h => (by cases h)⟩) ext_nil (fun q h => (by cases h)) (enF c111_18_k) (fun _ h => (by cases h))

noncomputable def zh306 : AH := [zc131, zc15, qrC 4 [some 3, some 8], zc16, qkC 100 0, qkC 100 1, qkC 100 2, qkC 100 3, zc17, qkC 100 4, qkC 100 5, qkC 100 6, qkC 100 7, zc18, qkC 100 8, qkC 100 9, qkC 100 10, qkC 100 11, qkC 100 12, qkC 100 13, qkC 100 14, zc19, qkC 100 15, qkC 100 16, qkC 100 17, qkC 100 18, qkC 100 19, qkC 100 20, zc20, qkC 102 21, qkC 100 22, qjC 1 1000000060, zc21, qkC 100 23, qkC 100 24, qkC 100 25, qkC 100 26, qkC 100 27, qkC 100 28, qkC 100 29, qkC 100 30, zc130, qjC 1 1000000006, qjC 1 1000000004, zc241, zc162, zc163, qiC 0 [qgN 12 0 0], zc164, qkC 100 33, zc165, qkC 100 34, zc132, qkC 100 35, zc166, qkC 100 36, qkC 100 37, qkC 100 38, qkC 100 39, qkC 100 40, zc242, zc168, zc169, zc303, zc170, qkC 100 43, zc171, qkC 100 44, zc133, qkC 100 45, zc172, qkC 100 46, qkC 100 47, qkC 100 48, qkC 100 49, qkC 100 50, qkC 100 51, qkC 100 52]
noncomputable def c110_18 : Ct := (110, 3, (53, [qtA 31, qtN 32 0 1001, qtA 41, qtN 42 0 1001], [], [qvR 0], zh306, []),
  [((53, [], [], [qvK (.ofNat 3)], zh306, []), 0, 0)])
noncomputable def c110_18_e : List Ct := [c111_18]
noncomputable def c110_18_pts : List PE := []
set_option maxRecDepth 100000 in
theorem c110_18_k : enCtF c110_18 c110_18_e (pkP (c110_18_pts ++ []) []) (none) noH 3000 = true := by decide +kernel
set_option maxRecDepth 100000 in
theorem c110_18_v : ValidC PPk c110_18 := ct_ok fpk noH_ok (d := 2) (ext := []) (pts := c110_18_pts) (env := c110_18_e) rfl (List.forall_mem_cons.mpr ⟨⟨c111_18_v, Nat.le_of_ble_eq_true rfl⟩, fun _ h => (by cases h)⟩) ext_nil (fun q h => (by cases h)) (enF c110_18_k) (fun _ h => (by cases h))

noncomputable def zh307 : AH := [zc12, qiC 0 [qgN 12 0 0], zc32, qiC 0 [qgN 7 0 0, qgS 0, qgN 4 0 0]]
noncomputable def c112_19 : Ct := (112, 1, (1, [qtN 0 1 1073741824], [], [qvR 0, qvR 2], zh307, []),
  [((1, [], [], [qvK (.ofNat 0)], zh307, []), 0, 0)])
noncomputable def c112_19_e : List Ct := []
noncomputable def c112_19_pts : List PE := []
set_option maxRecDepth 100000 in
theorem c112_19_k : enCtF c112_19 c112_19_e (pkP (c112_19_pts ++ []) []) (none) noH 9000 = true := by decide +kernel
set_option maxRecDepth 100000 in
theorem c112_19_v : ValidC PPk c112_19 := ct_ok fpk noH_ok (d := 0) (ext := []) (pts := c112_19_pts) (env := c112_19_e) rfl (fun _ h => (by cases h)) ext_nil (fun q h => (by cases h)) (enF c112_19_k) (fun _ h => (by cases h))

noncomputable def zh308 : AH := [zc98, zc31, zc32, qiC 0 [qgN 12 0 0], zc33, qkC 100 2, zc34, qkC 100 3, zc14, qkC 100 4, zc35, qkC 100 5, qkC 100 6, qkC 100 7, qkC 100 8, qkC 100 9, zc239, zc156, zc157, qiC 0 [qgN 7 0 0, qgS 12, qgN 4 0 0], zc158, qkC 100 13, zc159, qkC 100 14, zc160, qkC 100 15, zc161, qkC 100 16, qkC 100 17, qkC 100 18, qkC 100 19, qkC 100 20]
noncomputable def c111_19 : Ct := (111, 2, (21, [qtA 0, qtN 1 0 1001, qtA 10, qtN 11 0 1001, qtN 12 1 1073741824], [], [qvR 0, qvR 16], zh308, []),
  [((21, [], [], [qvK (.ofNat 0)], zh308, []), 0, 0)])
noncomputable def c111_19_e : List Ct := [c112_19]
noncomputable def c111_19_pts : List PE := []
set_option maxRecDepth 100000 in
theorem c111_19_k : enCtF c111_19 c111_19_e (pkP (c111_19_pts ++ []) []) (none) noH 9000 = true := by decide +kernel
set_option maxRecDepth 100000 in
theorem c111_19_v : ValidC PPk c111_19 := ct_ok fpk noH_ok (d := 1) (ext := []) (pts := c111_19_pts) (env := c111_19_e) rfl (List.forall_mem_cons.mpr ⟨⟨c112_19_v, Nat.le_of_ble_eq_true rfl⟩, fun _ h => (by cases h)⟩) ext_nil (fun q h => (by cases h)) (enF c111_19_k) (fun _ h => (by cases h))

noncomputable def zh309 : AH := [zc131, zc15, qrC 4 [some 3, some 8], zc16, qkC 100 0, qkC 100 1, qkC 100 2, qkC 100 3, zc17, qkC 100 4, qkC 100 5, qkC 100 6, qkC 100 7, zc18, qkC 100 8, qkC 100 9, qkC 100 10, qkC 100 11, qkC 100 12, qkC 100 13, qkC 100 14, zc19, qkC 100 15, qkC 100 16, qkC 100 17, qkC 100 18, qkC 100 19, qkC 100 20, zc20, qkC 102 21, qkC 100 22, qjC 1 1000000060, zc21, qkC 100 23, qkC 100 24, qkC 100 25, qkC 100 26, qkC 100 27, qkC 100 28, qkC 100 29, qkC 100 30, zc130, qjC 1 1000000006, qjC 1 1000000004, zc241, zc162, zc163, qiC 0 [qgN 12 0 0], zc164, qkC 100 33, zc165, qkC 100 34, zc132, qkC 100 35, zc166, qkC 100 36, qkC 100 37, qkC 100 38, qkC 100 39, qkC 100 40, zc242, zc168, zc169, qiC 0 [qgN 7 0 0, qgS 43, qgN 4 0 0], zc170, qkC 100 44, zc171, qkC 100 45, zc133, qkC 100 46, zc172, qkC 100 47, qkC 100 48, qkC 100 49, qkC 100 50, qkC 100 51, qkC 100 52, qkC 100 53]
noncomputable def c110_19 : Ct := (110, 3, (54, [qtA 31, qtN 32 0 1001, qtA 41, qtN 42 0 1001, qtN 43 1 1073741824], [], [qvR 0], zh309, []),
  [((54, [], [], [qvK (.ofNat 3)], zh309, []), 0, 0)])
noncomputable def c110_19_e : List Ct := [c111_19]
noncomputable def c110_19_pts : List PE := []
set_option maxRecDepth 100000 in
theorem c110_19_k : enCtF c110_19 c110_19_e (pkP (c110_19_pts ++ []) []) (none) noH 3000 = true := by decide +kernel
set_option maxRecDepth 100000 in
theorem c110_19_v : ValidC PPk c110_19 := ct_ok fpk noH_ok (d := 2) (ext := []) (pts := c110_19_pts) (env := c110_19_e) rfl (List.forall_mem_cons.mpr ⟨⟨c111_19_v, Nat.le_of_ble_eq_true rfl⟩, fun _ h => (by cases h)⟩) ext_nil (fun q h => (by cases h)) (enF c110_19_k) (fun _ h => (by cases h))

noncomputable def zc310 : AC := qiC 0 [qgN 8 0 0, .inr (1, (.negSucc 2147483647), (.negSucc 2147483647)), qgN 3 0 0]
noncomputable def zh311 : AH := [zc12, qiC 0 [qgN 12 0 0], zc32, zc310]
noncomputable def c112_20 : Ct := (112, 1, (0, [], [], [qvR 0, qvR 2], zh311, []),
  [((0, [], [], [qvK (.ofNat 0)], zh311, []), 0, 0)])
noncomputable def c112_20_e : List Ct := []
noncomputable def c112_20_pts : List PE := []
set_option maxRecDepth 100000 in
theorem c112_20_k : enCtF c112_20 c112_20_e (pkP (c112_20_pts ++ []) []) (none) noH 9000 = true := by decide +kernel
set_option maxRecDepth 100000 in
theorem c112_20_v : ValidC PPk c112_20 := ct_ok fpk noH_ok (d := 0) (ext := []) (pts := c112_20_pts) (env := c112_20_e) rfl (fun _ h => (by cases h)) ext_nil (fun q h => (by cases h)) (enF c112_20_k) (fun _ h => (by cases h))

noncomputable def zh312 : AH := [zc98, zc31, zc32, qiC 0 [qgN 12 0 0], zc33, qkC 100 2, zc34, qkC 100 3, zc14, qkC 100 4, zc35, qkC 100 5, qkC 100 6, qkC 100 7, qkC 100 8, qkC 100 9, zc239, zc156, zc157, zc310, zc158, qkC 100 12, zc159, qkC 100 13, zc160, qkC 100 14, zc161, qkC 100 15, qkC 100 16, qkC 100 17, qkC 100 18, qkC 100 19]
noncomputable def c111_20 : Ct := (111, 2, (20, [qtA 0, qtN 1 0 1001, qtA 10, qtN 11 0 1001], [], [qvR 0, qvR 16], zh312, []),
  [((20, [], [], [qvK (.ofNat 0)], zh312, []), 0, 0)])
noncomputable def c111_20_e : List Ct := [c112_20]
noncomputable def c111_20_pts : List PE := []
set_option maxRecDepth 100000 in
theorem c111_20_k : enCtF c111_20 c111_20_e (pkP (c111_20_pts ++ []) []) (none) noH 9000 = true := by decide +kernel
set_option maxRecDepth 100000 in
theorem c111_20_v : ValidC PPk c111_20 := ct_ok fpk noH_ok (d := 1) (ext := []) (pts := c111_20_pts) (env := c111_20_e) rfl (List.forall_mem_cons.mpr ⟨⟨c112_20_v, Nat.le_of_ble_eq_true rfl⟩, fun _ h => (by cases h)⟩) ext_nil (fun q h => (by cases h)) (enF c111_20_k) (fun _ h => (by cases h))

noncomputable def zh313 : AH := [zc131, zc15, qrC 4 [some 3, some 8], zc16, qkC 100 0, qkC 100 1, qkC 100 2, qkC 100 3, zc17, qkC 100 4, qkC 100 5, qkC 100 6, qkC 100 7, zc18, qkC 100 8, qkC 100 9, qkC 100 10, qkC 100 11, qkC 100 12, qkC 100 13, qkC 100 14, zc19, qkC 100 15, qkC 100 16, qkC 100 17, qkC 100 18, qkC 100 19, qkC 100 20, zc20, qkC 102 21, qkC 100 22, qjC 1 1000000060, zc21, qkC 100 23, qkC 100 24, qkC 100 25, qkC 100 26, qkC 100 27, qkC 100 28, qkC 100 29, qkC 100 30, zc130, qjC 1 1000000006, qjC 1 1000000004, zc241, zc162, zc163, qiC 0 [qgN 12 0 0], zc164, qkC 100 33, zc165, qkC 100 34, zc132, qkC 100 35, zc166, qkC 100 36, qkC 100 37, qkC 100 38, qkC 100 39, qkC 100 40, zc242, zc168, zc169, zc310, zc170, qkC 100 43, zc171, qkC 100 44, zc133, qkC 100 45, zc172, qkC 100 46, qkC 100 47, qkC 100 48, qkC 100 49, qkC 100 50, qkC 100 51, qkC 100 52]
noncomputable def c110_20 : Ct := (110, 3, (53, [qtA 31, qtN 32 0 1001, qtA 41, qtN 42 0 1001], [], [qvR 0], zh313, []),
  [((53, [], [], [qvK (.ofNat 3)], zh313, []), 0, 0)])
noncomputable def c110_20_e : List Ct := [c111_20]
noncomputable def c110_20_pts : List PE := []
set_option maxRecDepth 100000 in
theorem c110_20_k : enCtF c110_20 c110_20_e (pkP (c110_20_pts ++ []) []) (none) noH 3000 = true := by decide +kernel
set_option maxRecDepth 100000 in
theorem c110_20_v : ValidC PPk c110_20 := ct_ok fpk noH_ok (d := 2) (ext := []) (pts := c110_20_pts) (env := c110_20_e) rfl (List.forall_mem_cons.mpr ⟨⟨c111_20_v, Nat.le_of_ble_eq_true rfl⟩, fun _ h => (by cases h)⟩) ext_nil (fun q h => (by cases h)) (enF c110_20_k) (fun _ h => (by cases h))

noncomputable def zh314 : AH := [zc12, qiC 0 [qgN 12 0 0], zc32, qiC 0 [qgN 8 0 0, qgS 0, qgN 3 0 0]]
noncomputable def c112_21 : Ct := (112, 1, (1, [qtN 0 1 1073741824], [], [qvR 0, qvR 2], zh314, []),
  [((1, [], [], [qvK (.ofNat 0)], zh314, []), 0, 0)])
noncomputable def c112_21_e : List Ct := []
noncomputable def c112_21_pts : List PE := []
set_option maxRecDepth 100000 in
theorem c112_21_k : enCtF c112_21 c112_21_e (pkP (c112_21_pts ++ []) []) (none) noH 9000 = true := by decide +kernel
set_option maxRecDepth 100000 in
theorem c112_21_v : ValidC PPk c112_21 := ct_ok fpk noH_ok (d := 0) (ext := []) (pts := c112_21_pts) (env := c112_21_e) rfl (fun _ h => (by cases h)) ext_nil (fun q h => (by cases h)) (enF c112_21_k) (fun _ h => (by cases h))

noncomputable def zh315 : AH := [zc98, zc31, zc32, qiC 0 [qgN 12 0 0], zc33, qkC 100 2, zc34, qkC 100 3, zc14, qkC 100 4, zc35, qkC 100 5, qkC 100 6, qkC 100 7, qkC 100 8, qkC 100 9, zc239, zc156, zc157, qiC 0 [qgN 8 0 0, qgS 12, qgN 3 0 0], zc158, qkC 100 13, zc159, qkC 100 14, zc160, qkC 100 15, zc161, qkC 100 16, qkC 100 17, qkC 100 18, qkC 100 19, qkC 100 20]
noncomputable def c111_21 : Ct := (111, 2, (21, [qtA 0, qtN 1 0 1001, qtA 10, qtN 11 0 1001, qtN 12 1 1073741824], [], [qvR 0, qvR 16], zh315, []),
  [((21, [], [], [qvK (.ofNat 0)], zh315, []), 0, 0)])
noncomputable def c111_21_e : List Ct := [c112_21]
noncomputable def c111_21_pts : List PE := []
set_option maxRecDepth 100000 in
theorem c111_21_k : enCtF c111_21 c111_21_e (pkP (c111_21_pts ++ []) []) (none) noH 9000 = true := by decide +kernel
set_option maxRecDepth 100000 in
theorem c111_21_v : ValidC PPk c111_21 := ct_ok fpk noH_ok (d := 1) (ext := []) (pts := c111_21_pts) (env := c111_21_e) rfl (List.forall_mem_cons.mpr ⟨⟨c112_21_v, Nat.le_of_ble_eq_true rfl⟩, fun _ h => (by cases h)⟩) ext_nil (fun q h => (by cases h)) (enF c111_21_k) (fun _ h => (by cases h))

noncomputable def zh316 : AH := [zc131, zc15, qrC 4 [some 3, some 8], zc16, qkC 100 0, qkC 100 1, qkC 100 2, qkC 100 3, zc17, qkC 100 4, qkC 100 5, qkC 100 6, qkC 100 7, zc18, qkC 100 8, qkC 100 9, qkC 100 10, qkC 100 11, qkC 100 12, qkC 100 13, qkC 100 14, zc19, qkC 100 15, qkC 100 16, qkC 100 17, qkC 100 18, qkC 100 19, qkC 100 20, zc20, qkC 102 21, qkC 100 22, qjC 1 1000000060, zc21, qkC 100 23, qkC 100 24, qkC 100 25, qkC 100 26, qkC 100 27, qkC 100 28, qkC 100 29, qkC 100 30, zc130, qjC 1 1000000006, qjC 1 1000000004, zc241, zc162, zc163, qiC 0 [qgN 12 0 0], zc164, qkC 100 33, zc165, qkC 100 34, zc132, qkC 100 35, zc166, qkC 100 36, qkC 100 37, qkC 100 38, qkC 100 39, qkC 100 40, zc242, zc168, zc169, qiC 0 [qgN 8 0 0, qgS 43, qgN 3 0 0], zc170, qkC 100 44, zc171, qkC 100 45, zc133, qkC 100 46, zc172, qkC 100 47, qkC 100 48, qkC 100 49, qkC 100 50, qkC 100 51, qkC 100 52, qkC 100 53]
noncomputable def c110_21 : Ct := (110, 3, (54, [qtA 31, qtN 32 0 1001, qtA 41, qtN 42 0 1001, qtN 43 1 1073741824], [], [qvR 0], zh316, []),
  [((54, [], [], [qvK (.ofNat 3)], zh316, []), 0, 0)])
noncomputable def c110_21_e : List Ct := [c111_21]
noncomputable def c110_21_pts : List PE := []
set_option maxRecDepth 100000 in
theorem c110_21_k : enCtF c110_21 c110_21_e (pkP (c110_21_pts ++ []) []) (none) noH 3000 = true := by decide +kernel
set_option maxRecDepth 100000 in
theorem c110_21_v : ValidC PPk c110_21 := ct_ok fpk noH_ok (d := 2) (ext := []) (pts := c110_21_pts) (env := c110_21_e) rfl (List.forall_mem_cons.mpr ⟨⟨c111_21_v, Nat.le_of_ble_eq_true rfl⟩, fun _ h => (by cases h)⟩) ext_nil (fun q h => (by cases h)) (enF c110_21_k) (fun _ h => (by cases h))

noncomputable def zc317 : AC := qiC 0 [qgN 9 0 0, .inr (1, (.negSucc 2147483647), (.negSucc 2147483647)), qgN 2 0 0]
noncomputable def zh318 : AH := [zc12, qiC 0 [qgN 12 0 0], zc32, zc317]
noncomputable def c112_22 : Ct := (112, 1, (0, [], [], [qvR 0, qvR 2], zh318, []),
  [((0, [], [], [qvK (.ofNat 0)], zh318, []), 0, 0)])
noncomputable def c112_22_e : List Ct := []
noncomputable def c112_22_pts : List PE := []
set_option maxRecDepth 100000 in
theorem c112_22_k : enCtF c112_22 c112_22_e (pkP (c112_22_pts ++ []) []) (none) noH 9000 = true := by decide +kernel
set_option maxRecDepth 100000 in
theorem c112_22_v : ValidC PPk c112_22 := ct_ok fpk noH_ok (d := 0) (ext := []) (pts := c112_22_pts) (env := c112_22_e) rfl (fun _ h => (by cases h)) ext_nil (fun q h => (by cases h)) (enF c112_22_k) (fun _ h => (by cases h))

noncomputable def zh319 : AH := [zc98, zc31, zc32, qiC 0 [qgN 12 0 0], zc33, qkC 100 2, zc34, qkC 100 3, zc14, qkC 100 4, zc35, qkC 100 5, qkC 100 6, qkC 100 7, qkC 100 8, qkC 100 9, zc239, zc156, zc157, zc317, zc158, qkC 100 12, zc159, qkC 100 13, zc160, qkC 100 14, zc161, qkC 100 15, qkC 100 16, qkC 100 17, qkC 100 18, qkC 100 19]
noncomputable def c111_22 : Ct := (111, 2, (20, [qtA 0, qtN 1 0 1001, qtA 10, qtN 11 0 1001], [], [qvR 0, qvR 16], zh319, []),
  [((20, [], [], [qvK (.ofNat 0)], zh319, []), 0, 0)])
noncomputable def c111_22_e : List Ct := [c112_22]
noncomputable def c111_22_pts : List PE := []
set_option maxRecDepth 100000 in
theorem c111_22_k : enCtF c111_22 c111_22_e (pkP (c111_22_pts ++ []) []) (none) noH 9000 = true := by decide +kernel
set_option maxRecDepth 100000 in
theorem c111_22_v : ValidC PPk c111_22 := ct_ok fpk noH_ok (d := 1) (ext := []) (pts := c111_22_pts) (env := c111_22_e) rfl (List.forall_mem_cons.mpr ⟨⟨c112_22_v, Nat.le_of_ble_eq_true rfl⟩, fun _ h => (by cases h)⟩) ext_nil (fun q h => (by cases h)) (enF c111_22_k) (fun _ h => (by cases h))

noncomputable def zh320 : AH := [zc131, zc15, qrC 4 [some 3, some 8], zc16, qkC 100 0, qkC 100 1, qkC 100 2, qkC 100 3, zc17, qkC 100 4, qkC 100 5, qkC 100 6, qkC 100 7, zc18, qkC 100 8, qkC 100 9, qkC 100 10, qkC 100 11, qkC 100 12, qkC 100 13, qkC 100 14, zc19, qkC 100 15, qkC 100 16, qkC 100 17, qkC 100 18, qkC 100 19, qkC 100 20, zc20, qkC 102 21, qkC 100 22, qjC 1 1000000060, zc21, qkC 100 23, qkC 100 24, qkC 100 25, qkC 100 26, qkC 100 27, qkC 100 28, qkC 100 29, qkC 100 30, zc130, qjC 1 1000000006, qjC 1 1000000004, zc241, zc162, zc163, qiC 0 [qgN 12 0 0], zc164, qkC 100 33, zc165, qkC 100 34, zc132, qkC 100 35, zc166, qkC 100 36, qkC 100 37, qkC 100 38, qkC 100 39, qkC 100 40, zc242, zc168, zc169, zc317, zc170, qkC 100 43, zc171, qkC 100 44, zc133, qkC 100 45, zc172, qkC 100 46, qkC 100 47, qkC 100 48, qkC 100 49, qkC 100 50, qkC 100 51, qkC 100 52]
noncomputable def c110_22 : Ct := (110, 3, (53, [qtA 31, qtN 32 0 1001, qtA 41, qtN 42 0 1001], [], [qvR 0], zh320, []),
  [((53, [], [], [qvK (.ofNat 3)], zh320, []), 0, 0)])
noncomputable def c110_22_e : List Ct := [c111_22]
noncomputable def c110_22_pts : List PE := []
set_option maxRecDepth 100000 in
theorem c110_22_k : enCtF c110_22 c110_22_e (pkP (c110_22_pts ++ []) []) (none) noH 3000 = true := by decide +kernel
set_option maxRecDepth 100000 in
theorem c110_22_v : ValidC PPk c110_22 := ct_ok fpk noH_ok (d := 2) (ext := []) (pts := c110_22_pts) (env := c110_22_e) rfl (List.forall_mem_cons.mpr ⟨⟨c111_22_v, Nat.le_of_ble_eq_true rfl⟩, fun _ h => (by cases h)⟩) ext_nil (fun q h => (by cases h)) (enF c110_22_k) (fun _ h => (by cases h))

noncomputable def zh321 : AH := [zc12, qiC 0 [qgN 12 0 0], zc32, qiC 0 [qgN 9 0 0, qgS 0, qgN 2 0 0]]
noncomputable def c112_23 : Ct := (112, 1, (1, [qtN 0 1 1073741824], [], [qvR 0, qvR 2], zh321, []),
  [((1, [], [], [qvK (.ofNat 0)], zh321, []), 0, 0)])
noncomputable def c112_23_e : List Ct := []
noncomputable def c112_23_pts : List PE := []
set_option maxRecDepth 100000 in
theorem c112_23_k : enCtF c112_23 c112_23_e (pkP (c112_23_pts ++ []) []) (none) noH 9000 = true := by decide +kernel
set_option maxRecDepth 100000 in
theorem c112_23_v : ValidC PPk c112_23 := ct_ok fpk noH_ok (d := 0) (ext := []) (pts := c112_23_pts) (env := c112_23_e) rfl (fun _ h => (by cases h)) ext_nil (fun q h => (by cases h)) (enF c112_23_k) (fun _ h => (by cases h))

noncomputable def zh322 : AH := [zc98, zc31, zc32, qiC 0 [qgN 12 0 0], zc33, qkC 100 2, zc34, qkC 100 3, zc14, qkC 100 4, zc35, qkC 100 5, qkC 100 6, qkC 100 7, qkC 100 8, qkC 100 9, zc239, zc156, zc157, qiC 0 [qgN 9 0 0, qgS 12, qgN 2 0 0], zc158, qkC 100 13, zc159, qkC 100 14, zc160, qkC 100 15, zc161, qkC 100 16, qkC 100 17, qkC 100 18, qkC 100 19, qkC 100 20]
noncomputable def c111_23 : Ct := (111, 2, (21, [qtA 0, qtN 1 0 1001, qtA 10, qtN 11 0 1001, qtN 12 1 1073741824], [], [qvR 0, qvR 16], zh322, []),
  [((21, [], [], [qvK (.ofNat 0)], zh322, []), 0, 0)])
noncomputable def c111_23_e : List Ct := [c112_23]
noncomputable def c111_23_pts : List PE := []
set_option maxRecDepth 100000 in
theorem c111_23_k : enCtF c111_23 c111_23_e (pkP (c111_23_pts ++ []) []) (none) noH 9000 = true := by decide +kernel
set_option maxRecDepth 100000 in
theorem c111_23_v : ValidC PPk c111_23 := ct_ok fpk noH_ok (d := 1) (ext := []) (pts := c111_23_pts) (env := c111_23_e) rfl (List.forall_mem_cons.mpr ⟨⟨c112_23_v, Nat.le_of_ble_eq_true rfl⟩, fun _ h => (by cases h)⟩) ext_nil (fun q h => (by cases h)) (enF c111_23_k) (fun _ h => (by cases h))

noncomputable def zh323 : AH := [zc131, zc15, qrC 4 [some 3, some 8], zc16, qkC 100 0, qkC 100 1, qkC 100 2, qkC 100 3, zc17, qkC 100 4, qkC 100 5, qkC 100 6, qkC 100 7, zc18, qkC 100 8, qkC 100 9, qkC 100 10, qkC 100 11, qkC 100 12, qkC 100 13, qkC 100 14, zc19, qkC 100 15, qkC 100 16, qkC 100 17, qkC 100 18, qkC 100 19, qkC 100 20, zc20, qkC 102 21, qkC 100 22, qjC 1 1000000060, zc21, qkC 100 23, qkC 100 24, qkC 100 25, qkC 100 26, qkC 100 27, qkC 100 28, qkC 100 29, qkC 100 30, zc130, qjC 1 1000000006, qjC 1 1000000004, zc241, zc162, zc163, qiC 0 [qgN 12 0 0], zc164, qkC 100 33, zc165, qkC 100 34, zc132, qkC 100 35, zc166, qkC 100 36, qkC 100 37, qkC 100 38, qkC 100 39, qkC 100 40, zc242, zc168, zc169, qiC 0 [qgN 9 0 0, qgS 43, qgN 2 0 0], zc170, qkC 100 44, zc171, qkC 100 45, zc133, qkC 100 46, zc172, qkC 100 47, qkC 100 48, qkC 100 49, qkC 100 50, qkC 100 51, qkC 100 52, qkC 100 53]
noncomputable def c110_23 : Ct := (110, 3, (54, [qtA 31, qtN 32 0 1001, qtA 41, qtN 42 0 1001, qtN 43 1 1073741824], [], [qvR 0], zh323, []),
  [((54, [], [], [qvK (.ofNat 3)], zh323, []), 0, 0)])
noncomputable def c110_23_e : List Ct := [c111_23]
noncomputable def c110_23_pts : List PE := []
set_option maxRecDepth 100000 in
theorem c110_23_k : enCtF c110_23 c110_23_e (pkP (c110_23_pts ++ []) []) (none) noH 3000 = true := by decide +kernel
set_option maxRecDepth 100000 in
theorem c110_23_v : ValidC PPk c110_23 := ct_ok fpk noH_ok (d := 2) (ext := []) (pts := c110_23_pts) (env := c110_23_e) rfl (List.forall_mem_cons.mpr ⟨⟨c111_23_v, Nat.le_of_ble_eq_true rfl⟩, fun _ h => (by cases h)⟩) ext_nil (fun q h => (by cases h)) (enF c110_23_k) (fun _ h => (by cases h))

noncomputable def c112_24 : Ct := (112, 1, (0, [], [], [qvR 0, qvR 2], zh153, []),
  [((0, [], [], [qvK (.ofNat 1)], zh153, []), 0, 0)])
noncomputable def c112_24_e : List Ct := []
noncomputable def c112_24_pts : List PE := []
set_option maxRecDepth 100000 in
theorem c112_24_k : enCtF c112_24 c112_24_e (pkP (c112_24_pts ++ []) []) (none) noH 9000 = true := by decide +kernel
set_option maxRecDepth 100000 in
theorem c112_24_v : ValidC PPk c112_24 := ct_ok fpk noH_ok (d := 0) (ext := []) (pts := c112_24_pts) (env := c112_24_e) rfl (fun _ h => (by cases h)) ext_nil (fun q h => (by cases h)) (enF c112_24_k) (fun _ h => (by cases h))

noncomputable def zc324 : AC := qoC 7 [qvR 17, qvK (.ofNat 7), qvR 26, qvR 30, qvR 31, qvK (.ofNat 0), qvK (.ofNat 0), qvK (.ofNat 0), qvS 9, qvK (.ofNat 0), qvK (.ofNat 0), qvS 10, qvK (.ofNat 0), qvK (.ofNat 0), qvK (.ofNat 0), qvK (.ofNat 0), qvK (.negSucc 0)]
noncomputable def zh325 : AH := [zc98, zc31, zc32, qiC 0 [qgN 12 0 0], zc33, qiC 0 [qgN 12 0 0], zc34, qkC 100 2, zc14, qkC 100 3, zc35, qkC 100 4, qkC 100 5, qkC 100 6, qkC 100 7, qkC 100 8, zc324, zc156, zc157, qiC 0 [qgN 12 0 0], zc158, zc237, zc159, qkC 100 11, zc160, qkC 100 12, zc161, qkC 100 13, qkC 100 14, qkC 100 15, qkC 100 16, qkC 100 17]
noncomputable def c111_24 : Ct := (111, 2, (18, [qtA 0, qtN 1 0 1001, qtA 9, qtN 10 0 1001], [], [qvR 0, qvR 16], zh325, []),
  [((18, [], [], [qvK (.ofNat 0)], zh325, []), 0, 0)])
noncomputable def c111_24_e : List Ct := [c112_0, c112_24]
noncomputable def c111_24_pts : List PE := []
set_option maxRecDepth 100000 in
theorem c111_24_k : enCtF c111_24 c111_24_e (pkP (c111_24_pts ++ []) []) (none) noH 9000 = true := by decide +kernel
set_option maxRecDepth 100000 in
theorem c111_24_v : ValidC PPk c111_24 := ct_ok fpk noH_ok (d := 1) (ext := []) (pts := c111_24_pts) (env := c111_24_e) rfl (List.forall_mem_cons.mpr ⟨⟨c112_0_v, Nat.le_of_ble_eq_true rfl⟩, List.forall_mem_cons.mpr ⟨⟨c112_24_v, Nat.le_of_ble_eq_true rfl⟩, fun _ h => (by cases h)⟩⟩) ext_nil (fun q h => (by cases h)) (enF c111_24_k) (fun _ h => (by cases h))

noncomputable def zc326 : AC := qoC 7 [qvR 61, qvK (.ofNat 7), qvR 70, qvR 74, qvR 75, qvK (.ofNat 0), qvK (.ofNat 0), qvK (.ofNat 0), qvS 40, qvK (.ofNat 0), qvK (.ofNat 0), qvS 41, qvK (.ofNat 0), qvK (.ofNat 0), qvK (.ofNat 0), qvK (.ofNat 0), qvK (.negSucc 0)]
noncomputable def zh327 : AH := [zc131, zc15, qrC 4 [some 3, some 8], zc16, qkC 100 0, qkC 100 1, qkC 100 2, qkC 100 3, zc17, qkC 100 4, qkC 100 5, qkC 100 6, qkC 100 7, zc18, qkC 100 8, qkC 100 9, qkC 100 10, qkC 100 11, qkC 100 12, qkC 100 13, qkC 100 14, zc19, qkC 100 15, qkC 100 16, qkC 100 17, qkC 100 18, qkC 100 19, qkC 100 20, zc20, qkC 102 21, qkC 100 22, qjC 1 1000000060, zc21, qkC 100 23, qkC 100 24, qkC 100 25, qkC 100 26, qkC 100 27, qkC 100 28, qkC 100 29, qkC 100 30, zc130, qjC 1 1000000006, qjC 1 1000000004, zc241, zc162, zc163, qiC 0 [qgN 12 0 0], zc164, qiC 0 [qgN 12 0 0], zc165, qkC 100 33, zc132, qkC 100 34, zc166, qkC 100 35, qkC 100 36, qkC 100 37, qkC 100 38, qkC 100 39, zc326, zc168, zc169, qiC 0 [qgN 12 0 0], zc170, zc237, zc171, qkC 100 42, zc133, qkC 100 43, zc172, qkC 100 44, qkC 100 45, qkC 100 46, qkC 100 47, qkC 100 48, qkC 100 49, qkC 100 50]
noncomputable def c110_24 : Ct := (110, 3, (51, [qtA 31, qtN 32 0 1001, qtA 40, qtN 41 0 1001], [], [qvR 0], zh327, []),
  [((51, [], [], [qvK (.ofNat 3)], zh327, []), 0, 0)])
noncomputable def c110_24_e : List Ct := [c111_24]
noncomputable def c110_24_pts : List PE := []
set_option maxRecDepth 100000 in
theorem c110_24_k : enCtF c110_24 c110_24_e (pkP (c110_24_pts ++ []) []) (none) noH 3000 = true := by decide +kernel
set_option maxRecDepth 100000 in
theorem c110_24_v : ValidC PPk c110_24 := ct_ok fpk noH_ok (d := 2) (ext := []) (pts := c110_24_pts) (env := c110_24_e) rfl (List.forall_mem_cons.mpr ⟨⟨c111_24_v, Nat.le_of_ble_eq_true rfl⟩, fun _ h => (by cases h)⟩) ext_nil (fun q h => (by cases h)) (enF c110_24_k) (fun _ h => (by cases h))

noncomputable def zh328 : AH := [zc98, zc31, zc32, qiC 0 [qgN 12 0 0], zc33, qiC 0 [qgN 12 0 0], zc34, qkC 100 2, zc14, qkC 100 3, zc35, qkC 100 4, qkC 100 5, qkC 100 6, qkC 100 7, qkC 100 8, zc324, zc156, zc157, qiC 0 [qgN 12 0 0], zc158, qiC 0 [qgS 11, qgN 11 0 0], zc159, qkC 100 12, zc160, qkC 100 13, zc161, qkC 100 14, qkC 100 15, qkC 100 16, qkC 100 17, qkC 100 18]
noncomputable def c111_25 : Ct := (111, 2, (19, [qtA 0, qtN 1 0 1001, qtA 9, qtN 10 0 1001, qtN 11 1 1073741824], [], [qvR 0, qvR 16], zh328, []),
  [((19, [], [], [qvK (.ofNat 0)], zh328, []), 0, 0)])
noncomputable def c111_25_e : List Ct := [c112_1, c112_24]
noncomputable def c111_25_pts : List PE := []
set_option maxRecDepth 100000 in
theorem c111_25_k : enCtF c111_25 c111_25_e (pkP (c111_25_pts ++ []) []) (none) noH 9000 = true := by decide +kernel
set_option maxRecDepth 100000 in
theorem c111_25_v : ValidC PPk c111_25 := ct_ok fpk noH_ok (d := 1) (ext := []) (pts := c111_25_pts) (env := c111_25_e) rfl (List.forall_mem_cons.mpr ⟨⟨c112_1_v, Nat.le_of_ble_eq_true rfl⟩, List.forall_mem_cons.mpr ⟨⟨c112_24_v, Nat.le_of_ble_eq_true rfl⟩, fun _ h => (by cases h)⟩⟩) ext_nil (fun q h => (by cases h)) (enF c111_25_k) (fun _ h => (by cases h))

noncomputable def zh329 : AH := [zc131, zc15, qrC 4 [some 3, some 8], zc16, qkC 100 0, qkC 100 1, qkC 100 2, qkC 100 3, zc17, qkC 100 4, qkC 100 5, qkC 100 6, qkC 100 7, zc18, qkC 100 8, qkC 100 9, qkC 100 10, qkC 100 11, qkC 100 12, qkC 100 13, qkC 100 14, zc19, qkC 100 15, qkC 100 16, qkC 100 17, qkC 100 18, qkC 100 19, qkC 100 20, zc20, qkC 102 21, qkC 100 22, qjC 1 1000000060, zc21, qkC 100 23, qkC 100 24, qkC 100 25, qkC 100 26, qkC 100 27, qkC 100 28, qkC 100 29, qkC 100 30, zc130, qjC 1 1000000006, qjC 1 1000000004, zc241, zc162, zc163, qiC 0 [qgN 12 0 0], zc164, qiC 0 [qgN 12 0 0], zc165, qkC 100 33, zc132, qkC 100 34, zc166, qkC 100 35, qkC 100 36, qkC 100 37, qkC 100 38, qkC 100 39, zc326, zc168, zc169, qiC 0 [qgN 12 0 0], zc170, qiC 0 [qgS 42, qgN 11 0 0], zc171, qkC 100 43, zc133, qkC 100 44, zc172, qkC 100 45, qkC 100 46, qkC 100 47, qkC 100 48, qkC 100 49, qkC 100 50, qkC 100 51]
noncomputable def c110_25 : Ct := (110, 3, (52, [qtA 31, qtN 32 0 1001, qtA 40, qtN 41 0 1001, qtN 42 1 1073741824], [], [qvR 0], zh329, []),
  [((52, [], [], [qvK (.ofNat 3)], zh329, []), 0, 0)])
noncomputable def c110_25_e : List Ct := [c111_25]
noncomputable def c110_25_pts : List PE := []
set_option maxRecDepth 100000 in
theorem c110_25_k : enCtF c110_25 c110_25_e (pkP (c110_25_pts ++ []) []) (none) noH 3000 = true := by decide +kernel
set_option maxRecDepth 100000 in
theorem c110_25_v : ValidC PPk c110_25 := ct_ok fpk noH_ok (d := 2) (ext := []) (pts := c110_25_pts) (env := c110_25_e) rfl (List.forall_mem_cons.mpr ⟨⟨c111_25_v, Nat.le_of_ble_eq_true rfl⟩, fun _ h => (by cases h)⟩) ext_nil (fun q h => (by cases h)) (enF c110_25_k) (fun _ h => (by cases h))

noncomputable def zh330 : AH := [zc98, zc31, zc32, qiC 0 [qgN 12 0 0], zc33, qiC 0 [qgN 12 0 0], zc34, qkC 100 2, zc14, qkC 100 3, zc35, qkC 100 4, qkC 100 5, qkC 100 6, qkC 100 7, qkC 100 8, zc324, zc156, zc157, qiC 0 [qgN 12 0 0], zc158, zc247, zc159, qkC 100 11, zc160, qkC 100 12, zc161, qkC 100 13, qkC 100 14, qkC 100 15, qkC 100 16, qkC 100 17]
noncomputable def c111_26 : Ct := (111, 2, (18, [qtA 0, qtN 1 0 1001, qtA 9, qtN 10 0 1001], [], [qvR 0, qvR 16], zh330, []),
  [((18, [], [], [qvK (.ofNat 0)], zh330, []), 0, 0)])
noncomputable def c111_26_e : List Ct := [c112_2, c112_24]
noncomputable def c111_26_pts : List PE := []
set_option maxRecDepth 100000 in
theorem c111_26_k : enCtF c111_26 c111_26_e (pkP (c111_26_pts ++ []) []) (none) noH 9000 = true := by decide +kernel
set_option maxRecDepth 100000 in
theorem c111_26_v : ValidC PPk c111_26 := ct_ok fpk noH_ok (d := 1) (ext := []) (pts := c111_26_pts) (env := c111_26_e) rfl (List.forall_mem_cons.mpr ⟨⟨c112_2_v, Nat.le_of_ble_eq_true rfl⟩, List.forall_mem_cons.mpr ⟨⟨c112_24_v, Nat.le_of_ble_eq_true rfl⟩, fun _ h => (by cases h)⟩⟩) ext_nil (fun q h => (by cases h)) (enF c111_26_k) (fun _ h => (by cases h))

noncomputable def zh331 : AH := [zc131, zc15, qrC 4 [some 3, some 8], zc16, qkC 100 0, qkC 100 1, qkC 100 2, qkC 100 3, zc17, qkC 100 4, qkC 100 5, qkC 100 6, qkC 100 7, zc18, qkC 100 8, qkC 100 9, qkC 100 10, qkC 100 11, qkC 100 12, qkC 100 13, qkC 100 14, zc19, qkC 100 15, qkC 100 16, qkC 100 17, qkC 100 18, qkC 100 19, qkC 100 20, zc20, qkC 102 21, qkC 100 22, qjC 1 1000000060, zc21, qkC 100 23, qkC 100 24, qkC 100 25, qkC 100 26, qkC 100 27, qkC 100 28, qkC 100 29, qkC 100 30, zc130, qjC 1 1000000006, qjC 1 1000000004, zc241, zc162, zc163, qiC 0 [qgN 12 0 0], zc164, qiC 0 [qgN 12 0 0], zc165, qkC 100 33, zc132, qkC 100 34, zc166, qkC 100 35, qkC 100 36, qkC 100 37, qkC 100 38, qkC 100 39, zc326, zc168, zc169, qiC 0 [qgN 12 0 0], zc170, zc247, zc171, qkC 100 42, zc133, qkC 100 43, zc172, qkC 100 44, qkC 100 45, qkC 100 46, qkC 100 47, qkC 100 48, qkC 100 49, qkC 100 50]
noncomputable def c110_26 : Ct := (110, 3, (51, [qtA 31, qtN 32 0 1001, qtA 40, qtN 41 0 1001], [], [qvR 0], zh331, []),
  [((51, [], [], [qvK (.ofNat 3)], zh331, []), 0, 0)])
noncomputable def c110_26_e : List Ct := [c111_26]
noncomputable def c110_26_pts : List PE := []
set_option maxRecDepth 100000 in
theorem c110_26_k : enCtF c110_26 c110_26_e (pkP (c110_26_pts ++ []) []) (none) noH 3000 = true := by decide +kernel
set_option maxRecDepth 100000 in
theorem c110_26_v : ValidC PPk c110_26 := ct_ok fpk noH_ok (d := 2) (ext := []) (pts := c110_26_pts) (env := c110_26_e) rfl (List.forall_mem_cons.mpr ⟨⟨c111_26_v, Nat.le_of_ble_eq_true rfl⟩, fun _ h => (by cases h)⟩) ext_nil (fun q h => (by cases h)) (enF c110_26_k) (fun _ h => (by cases h))

noncomputable def zh332 : AH := [zc98, zc31, zc32, qiC 0 [qgN 12 0 0], zc33, qiC 0 [qgN 12 0 0], zc34, qkC 100 2, zc14, qkC 100 3, zc35, qkC 100 4, qkC 100 5, qkC 100 6, qkC 100 7, qkC 100 8, zc324, zc156, zc157, qiC 0 [qgN 12 0 0], zc158, zc191, zc159, qkC 100 12, zc160, qkC 100 13, zc161, qkC 100 14, qkC 100 15, qkC 100 16, qkC 100 17, qkC 100 18]
noncomputable def c111_27 : Ct := (111, 2, (19, [qtA 0, qtN 1 0 1001, qtA 9, qtN 10 0 1001, qtN 11 1 1073741824], [], [qvR 0, qvR 16], zh332, []),
  [((19, [], [], [qvK (.ofNat 0)], zh332, []), 0, 0)])
noncomputable def c111_27_e : List Ct := [c112_24, c112_3]
noncomputable def c111_27_pts : List PE := []
set_option maxRecDepth 100000 in
theorem c111_27_k : enCtF c111_27 c111_27_e (pkP (c111_27_pts ++ []) []) (none) noH 9000 = true := by decide +kernel
set_option maxRecDepth 100000 in
theorem c111_27_v : ValidC PPk c111_27 := ct_ok fpk noH_ok (d := 1) (ext := []) (pts := c111_27_pts) (env := c111_27_e) rfl (List.forall_mem_cons.mpr ⟨⟨c112_24_v, Nat.le_of_ble_eq_true rfl⟩, List.forall_mem_cons.mpr ⟨⟨c112_3_v, Nat.le_of_ble_eq_true rfl⟩, fun _ h => (by cases h)⟩⟩) ext_nil (fun q h => (by cases h)) (enF c111_27_k) (fun _ h => (by cases h))

noncomputable def zh333 : AH := [zc131, zc15, qrC 4 [some 3, some 8], zc16, qkC 100 0, qkC 100 1, qkC 100 2, qkC 100 3, zc17, qkC 100 4, qkC 100 5, qkC 100 6, qkC 100 7, zc18, qkC 100 8, qkC 100 9, qkC 100 10, qkC 100 11, qkC 100 12, qkC 100 13, qkC 100 14, zc19, qkC 100 15, qkC 100 16, qkC 100 17, qkC 100 18, qkC 100 19, qkC 100 20, zc20, qkC 102 21, qkC 100 22, qjC 1 1000000060, zc21, qkC 100 23, qkC 100 24, qkC 100 25, qkC 100 26, qkC 100 27, qkC 100 28, qkC 100 29, qkC 100 30, zc130, qjC 1 1000000006, qjC 1 1000000004, zc241, zc162, zc163, qiC 0 [qgN 12 0 0], zc164, qiC 0 [qgN 12 0 0], zc165, qkC 100 33, zc132, qkC 100 34, zc166, qkC 100 35, qkC 100 36, qkC 100 37, qkC 100 38, qkC 100 39, zc326, zc168, zc169, qiC 0 [qgN 12 0 0], zc170, qiC 0 [qgN 1 0 0, qgS 42, qgN 10 0 0], zc171, qkC 100 43, zc133, qkC 100 44, zc172, qkC 100 45, qkC 100 46, qkC 100 47, qkC 100 48, qkC 100 49, qkC 100 50, qkC 100 51]
noncomputable def c110_27 : Ct := (110, 3, (52, [qtA 31, qtN 32 0 1001, qtA 40, qtN 41 0 1001, qtN 42 1 1073741824], [], [qvR 0], zh333, []),
  [((52, [], [], [qvK (.ofNat 3)], zh333, []), 0, 0)])
noncomputable def c110_27_e : List Ct := [c111_27]
noncomputable def c110_27_pts : List PE := []
set_option maxRecDepth 100000 in
theorem c110_27_k : enCtF c110_27 c110_27_e (pkP (c110_27_pts ++ []) []) (none) noH 3000 = true := by decide +kernel
set_option maxRecDepth 100000 in
theorem c110_27_v : ValidC PPk c110_27 := ct_ok fpk noH_ok (d := 2) (ext := []) (pts := c110_27_pts) (env := c110_27_e) rfl (List.forall_mem_cons.mpr ⟨⟨c111_27_v, Nat.le_of_ble_eq_true rfl⟩, fun _ h => (by cases h)⟩) ext_nil (fun q h => (by cases h)) (enF c110_27_k) (fun _ h => (by cases h))

noncomputable def zh334 : AH := [zc98, zc31, zc32, qiC 0 [qgN 12 0 0], zc33, qiC 0 [qgN 12 0 0], zc34, qkC 100 2, zc14, qkC 100 3, zc35, qkC 100 4, qkC 100 5, qkC 100 6, qkC 100 7, qkC 100 8, zc324, zc156, zc157, qiC 0 [qgN 12 0 0], zc158, zc254, zc159, qkC 100 11, zc160, qkC 100 12, zc161, qkC 100 13, qkC 100 14, qkC 100 15, qkC 100 16, qkC 100 17]
noncomputable def c111_28 : Ct := (111, 2, (18, [qtA 0, qtN 1 0 1001, qtA 9, qtN 10 0 1001], [], [qvR 0, qvR 16], zh334, []),
  [((18, [], [], [qvK (.ofNat 0)], zh334, []), 0, 0)])
noncomputable def c111_28_e : List Ct := [c112_24, c112_4]
noncomputable def c111_28_pts : List PE := []
set_option maxRecDepth 100000 in
theorem c111_28_k : enCtF c111_28 c111_28_e (pkP (c111_28_pts ++ []) []) (none) noH 9000 = true := by decide +kernel
set_option maxRecDepth 100000 in
theorem c111_28_v : ValidC PPk c111_28 := ct_ok fpk noH_ok (d := 1) (ext := []) (pts := c111_28_pts) (env := c111_28_e) rfl (List.forall_mem_cons.mpr ⟨⟨c112_24_v, Nat.le_of_ble_eq_true rfl⟩, List.forall_mem_cons.mpr ⟨⟨c112_4_v, Nat.le_of_ble_eq_true rfl⟩, fun _ h => (by cases h)⟩⟩) ext_nil (fun q h => (by cases h)) (enF c111_28_k) (fun _ h => (by cases h))

noncomputable def zh335 : AH := [zc131, zc15, qrC 4 [some 3, some 8], zc16, qkC 100 0, qkC 100 1, qkC 100 2, qkC 100 3, zc17, qkC 100 4, qkC 100 5, qkC 100 6, qkC 100 7, zc18, qkC 100 8, qkC 100 9, qkC 100 10, qkC 100 11, qkC 100 12, qkC 100 13, qkC 100 14, zc19, qkC 100 15, qkC 100 16, qkC 100 17, qkC 100 18, qkC 100 19, qkC 100 20, zc20, qkC 102 21, qkC 100 22, qjC 1 1000000060, zc21, qkC 100 23, qkC 100 24, qkC 100 25, qkC 100 26, qkC 100 27, qkC 100 28, qkC 100 29, qkC 100 30, zc130, qjC 1 1000000006, qjC 1 1000000004, zc241, zc162, zc163, qiC 0 [qgN 12 0 0], zc164, qiC 0 [qgN 12 0 0], zc165, qkC 100 33, zc132, qkC 100 34, zc166, qkC 100 35, qkC 100 36, qkC 100 37, qkC 100 38, qkC 100 39, zc326, zc168, zc169, qiC 0 [qgN 12 0 0], zc170, zc254, zc171, qkC 100 42, zc133, qkC 100 43, zc172, qkC 100 44, qkC 100 45, qkC 100 46, qkC 100 47, qkC 100 48, qkC 100 49, qkC 100 50]
noncomputable def c110_28 : Ct := (110, 3, (51, [qtA 31, qtN 32 0 1001, qtA 40, qtN 41 0 1001], [], [qvR 0], zh335, []),
  [((51, [], [], [qvK (.ofNat 3)], zh335, []), 0, 0)])
noncomputable def c110_28_e : List Ct := [c111_28]
noncomputable def c110_28_pts : List PE := []
set_option maxRecDepth 100000 in
theorem c110_28_k : enCtF c110_28 c110_28_e (pkP (c110_28_pts ++ []) []) (none) noH 3000 = true := by decide +kernel
set_option maxRecDepth 100000 in
theorem c110_28_v : ValidC PPk c110_28 := ct_ok fpk noH_ok (d := 2) (ext := []) (pts := c110_28_pts) (env := c110_28_e) rfl (List.forall_mem_cons.mpr ⟨⟨c111_28_v, Nat.le_of_ble_eq_true rfl⟩, fun _ h => (by cases h)⟩) ext_nil (fun q h => (by cases h)) (enF c110_28_k) (fun _ h => (by cases h))

noncomputable def zh336 : AH := [zc98, zc31, zc32, qiC 0 [qgN 12 0 0], zc33, qiC 0 [qgN 12 0 0], zc34, qkC 100 2, zc14, qkC 100 3, zc35, qkC 100 4, qkC 100 5, qkC 100 6, qkC 100 7, qkC 100 8, zc324, zc156, zc157, qiC 0 [qgN 12 0 0], zc158, zc195, zc159, qkC 100 12, zc160, qkC 100 13, zc161, qkC 100 14, qkC 100 15, qkC 100 16, qkC 100 17, qkC 100 18]
noncomputable def c111_29 : Ct := (111, 2, (19, [qtA 0, qtN 1 0 1001, qtA 9, qtN 10 0 1001, qtN 11 1 1073741824], [], [qvR 0, qvR 16], zh336, []),
  [((19, [], [], [qvK (.ofNat 0)], zh336, []), 0, 0)])
noncomputable def c111_29_e : List Ct := [c112_24, c112_5]
noncomputable def c111_29_pts : List PE := []
set_option maxRecDepth 100000 in
theorem c111_29_k : enCtF c111_29 c111_29_e (pkP (c111_29_pts ++ []) []) (none) noH 9000 = true := by decide +kernel
set_option maxRecDepth 100000 in
theorem c111_29_v : ValidC PPk c111_29 := ct_ok fpk noH_ok (d := 1) (ext := []) (pts := c111_29_pts) (env := c111_29_e) rfl (List.forall_mem_cons.mpr ⟨⟨c112_24_v, Nat.le_of_ble_eq_true rfl⟩, List.forall_mem_cons.mpr ⟨⟨c112_5_v, Nat.le_of_ble_eq_true rfl⟩, fun _ h => (by cases h)⟩⟩) ext_nil (fun q h => (by cases h)) (enF c111_29_k) (fun _ h => (by cases h))

noncomputable def zh337 : AH := [zc131, zc15, qrC 4 [some 3, some 8], zc16, qkC 100 0, qkC 100 1, qkC 100 2, qkC 100 3, zc17, qkC 100 4, qkC 100 5, qkC 100 6, qkC 100 7, zc18, qkC 100 8, qkC 100 9, qkC 100 10, qkC 100 11, qkC 100 12, qkC 100 13, qkC 100 14, zc19, qkC 100 15, qkC 100 16, qkC 100 17, qkC 100 18, qkC 100 19, qkC 100 20, zc20, qkC 102 21, qkC 100 22, qjC 1 1000000060, zc21, qkC 100 23, qkC 100 24, qkC 100 25, qkC 100 26, qkC 100 27, qkC 100 28, qkC 100 29, qkC 100 30, zc130, qjC 1 1000000006, qjC 1 1000000004, zc241, zc162, zc163, qiC 0 [qgN 12 0 0], zc164, qiC 0 [qgN 12 0 0], zc165, qkC 100 33, zc132, qkC 100 34, zc166, qkC 100 35, qkC 100 36, qkC 100 37, qkC 100 38, qkC 100 39, zc326, zc168, zc169, qiC 0 [qgN 12 0 0], zc170, qiC 0 [qgN 10 0 0, qgS 42, qgN 1 0 0], zc171, qkC 100 43, zc133, qkC 100 44, zc172, qkC 100 45, qkC 100 46, qkC 100 47, qkC 100 48, qkC 100 49, qkC 100 50, qkC 100 51]
noncomputable def c110_29 : Ct := (110, 3, (52, [qtA 31, qtN 32 0 1001, qtA 40, qtN 41 0 1001, qtN 42 1 1073741824], [], [qvR 0], zh337, []),
  [((52, [], [], [qvK (.ofNat 3)], zh337, []), 0, 0)])
noncomputable def c110_29_e : List Ct := [c111_29]
noncomputable def c110_29_pts : List PE := []
set_option maxRecDepth 100000 in
theorem c110_29_k : enCtF c110_29 c110_29_e (pkP (c110_29_pts ++ []) []) (none) noH 3000 = true := by decide +kernel
set_option maxRecDepth 100000 in
theorem c110_29_v : ValidC PPk c110_29 := ct_ok fpk noH_ok (d := 2) (ext := []) (pts := c110_29_pts) (env := c110_29_e) rfl (List.forall_mem_cons.mpr ⟨⟨c111_29_v, Nat.le_of_ble_eq_true rfl⟩, fun _ h => (by cases h)⟩) ext_nil (fun q h => (by cases h)) (enF c110_29_k) (fun _ h => (by cases h))

noncomputable def zh338 : AH := [zc98, zc31, zc32, qiC 0 [qgN 12 0 0], zc33, qiC 0 [qgN 12 0 0], zc34, qkC 100 2, zc14, qkC 100 3, zc35, qkC 100 4, qkC 100 5, qkC 100 6, qkC 100 7, qkC 100 8, zc324, zc156, zc157, qiC 0 [qgN 12 0 0], zc158, zc261, zc159, qkC 100 11, zc160, qkC 100 12, zc161, qkC 100 13, qkC 100 14, qkC 100 15, qkC 100 16, qkC 100 17]
noncomputable def c111_30 : Ct := (111, 2, (18, [qtA 0, qtN 1 0 1001, qtA 9, qtN 10 0 1001], [], [qvR 0, qvR 16], zh338, []),
  [((18, [], [], [qvK (.ofNat 0)], zh338, []), 0, 0)])
noncomputable def c111_30_e : List Ct := [c112_24, c112_6]
noncomputable def c111_30_pts : List PE := []
set_option maxRecDepth 100000 in
theorem c111_30_k : enCtF c111_30 c111_30_e (pkP (c111_30_pts ++ []) []) (none) noH 9000 = true := by decide +kernel
set_option maxRecDepth 100000 in
theorem c111_30_v : ValidC PPk c111_30 := ct_ok fpk noH_ok (d := 1) (ext := []) (pts := c111_30_pts) (env := c111_30_e) rfl (List.forall_mem_cons.mpr ⟨⟨c112_24_v, Nat.le_of_ble_eq_true rfl⟩, List.forall_mem_cons.mpr ⟨⟨c112_6_v, Nat.le_of_ble_eq_true rfl⟩, fun _ h => (by cases h)⟩⟩) ext_nil (fun q h => (by cases h)) (enF c111_30_k) (fun _ h => (by cases h))

noncomputable def zh339 : AH := [zc131, zc15, qrC 4 [some 3, some 8], zc16, qkC 100 0, qkC 100 1, qkC 100 2, qkC 100 3, zc17, qkC 100 4, qkC 100 5, qkC 100 6, qkC 100 7, zc18, qkC 100 8, qkC 100 9, qkC 100 10, qkC 100 11, qkC 100 12, qkC 100 13, qkC 100 14, zc19, qkC 100 15, qkC 100 16, qkC 100 17, qkC 100 18, qkC 100 19, qkC 100 20, zc20, qkC 102 21, qkC 100 22, qjC 1 1000000060, zc21, qkC 100 23, qkC 100 24, qkC 100 25, qkC 100 26, qkC 100 27, qkC 100 28, qkC 100 29, qkC 100 30, zc130, qjC 1 1000000006, qjC 1 1000000004, zc241, zc162, zc163, qiC 0 [qgN 12 0 0], zc164, qiC 0 [qgN 12 0 0], zc165, qkC 100 33, zc132, qkC 100 34, zc166, qkC 100 35, qkC 100 36, qkC 100 37, qkC 100 38, qkC 100 39, zc326, zc168, zc169, qiC 0 [qgN 12 0 0], zc170, zc261, zc171, qkC 100 42, zc133, qkC 100 43, zc172, qkC 100 44, qkC 100 45, qkC 100 46, qkC 100 47, qkC 100 48, qkC 100 49, qkC 100 50]
noncomputable def c110_30 : Ct := (110, 3, (51, [qtA 31, qtN 32 0 1001, qtA 40, qtN 41 0 1001], [], [qvR 0], zh339, []),
  [((51, [], [], [qvK (.ofNat 3)], zh339, []), 0, 0)])
noncomputable def c110_30_e : List Ct := [c111_30]
noncomputable def c110_30_pts : List PE := []
set_option maxRecDepth 100000 in
theorem c110_30_k : enCtF c110_30 c110_30_e (pkP (c110_30_pts ++ []) []) (none) noH 3000 = true := by decide +kernel
set_option maxRecDepth 100000 in
theorem c110_30_v : ValidC PPk c110_30 := ct_ok fpk noH_ok (d := 2) (ext := []) (pts := c110_30_pts) (env := c110_30_e) rfl (List.forall_mem_cons.mpr ⟨⟨c111_30_v, Nat.le_of_ble_eq_true rfl⟩, fun _ h => (by cases h)⟩) ext_nil (fun q h => (by cases h)) (enF c110_30_k) (fun _ h => (by cases h))

noncomputable def zh340 : AH := [zc98, zc31, zc32, qiC 0 [qgN 12 0 0], zc33, qiC 0 [qgN 12 0 0], zc34, qkC 100 2, zc14, qkC 100 3, zc35, qkC 100 4, qkC 100 5, qkC 100 6, qkC 100 7, qkC 100 8, zc324, zc156, zc157, qiC 0 [qgN 12 0 0], zc158, qiC 0 [qgN 11 0 0, qgS 11], zc159, qkC 100 12, zc160, qkC 100 13, zc161, qkC 100 14, qkC 100 15, qkC 100 16, qkC 100 17, qkC 100 18]
noncomputable def c111_31 : Ct := (111, 2, (19, [qtA 0, qtN 1 0 1001, qtA 9, qtN 10 0 1001, qtN 11 1 1073741824], [], [qvR 0, qvR 16], zh340, []),
  [((19, [], [], [qvK (.ofNat 0)], zh340, []), 0, 0)])
noncomputable def c111_31_e : List Ct := [c112_24, c112_7]
noncomputable def c111_31_pts : List PE := []
set_option maxRecDepth 100000 in
theorem c111_31_k : enCtF c111_31 c111_31_e (pkP (c111_31_pts ++ []) []) (none) noH 9000 = true := by decide +kernel
set_option maxRecDepth 100000 in
theorem c111_31_v : ValidC PPk c111_31 := ct_ok fpk noH_ok (d := 1) (ext := []) (pts := c111_31_pts) (env := c111_31_e) rfl (List.forall_mem_cons.mpr ⟨⟨c112_24_v, Nat.le_of_ble_eq_true rfl⟩, List.forall_mem_cons.mpr ⟨⟨c112_7_v, Nat.le_of_ble_eq_true rfl⟩, fun _ h => (by cases h)⟩⟩) ext_nil (fun q h => (by cases h)) (enF c111_31_k) (fun _ h => (by cases h))

noncomputable def zh341 : AH := [zc131, zc15, qrC 4 [some 3, some 8], zc16, qkC 100 0, qkC 100 1, qkC 100 2, qkC 100 3, zc17, qkC 100 4, qkC 100 5, qkC 100 6, qkC 100 7, zc18, qkC 100 8, qkC 100 9, qkC 100 10, qkC 100 11, qkC 100 12, qkC 100 13, qkC 100 14, zc19, qkC 100 15, qkC 100 16, qkC 100 17, qkC 100 18, qkC 100 19, qkC 100 20, zc20, qkC 102 21, qkC 100 22, qjC 1 1000000060, zc21, qkC 100 23, qkC 100 24, qkC 100 25, qkC 100 26, qkC 100 27, qkC 100 28, qkC 100 29, qkC 100 30, zc130, qjC 1 1000000006, qjC 1 1000000004, zc241, zc162, zc163, qiC 0 [qgN 12 0 0], zc164, qiC 0 [qgN 12 0 0], zc165, qkC 100 33, zc132, qkC 100 34, zc166, qkC 100 35, qkC 100 36, qkC 100 37, qkC 100 38, qkC 100 39, zc326, zc168, zc169, qiC 0 [qgN 12 0 0], zc170, qiC 0 [qgN 11 0 0, qgS 42], zc171, qkC 100 43, zc133, qkC 100 44, zc172, qkC 100 45, qkC 100 46, qkC 100 47, qkC 100 48, qkC 100 49, qkC 100 50, qkC 100 51]
noncomputable def c110_31 : Ct := (110, 3, (52, [qtA 31, qtN 32 0 1001, qtA 40, qtN 41 0 1001, qtN 42 1 1073741824], [], [qvR 0], zh341, []),
  [((52, [], [], [qvK (.ofNat 3)], zh341, []), 0, 0)])
noncomputable def c110_31_e : List Ct := [c111_31]
noncomputable def c110_31_pts : List PE := []
set_option maxRecDepth 100000 in
theorem c110_31_k : enCtF c110_31 c110_31_e (pkP (c110_31_pts ++ []) []) (none) noH 3000 = true := by decide +kernel
set_option maxRecDepth 100000 in
theorem c110_31_v : ValidC PPk c110_31 := ct_ok fpk noH_ok (d := 2) (ext := []) (pts := c110_31_pts) (env := c110_31_e) rfl (List.forall_mem_cons.mpr ⟨⟨c111_31_v, Nat.le_of_ble_eq_true rfl⟩, fun _ h => (by cases h)⟩) ext_nil (fun q h => (by cases h)) (enF c110_31_k) (fun _ h => (by cases h))

noncomputable def zh342 : AH := [zc98, zc31, zc32, qiC 0 [qgN 12 0 0], zc33, qiC 0 [qgN 12 0 0], zc34, qkC 100 2, zc14, qkC 100 3, zc35, qkC 100 4, qkC 100 5, qkC 100 6, qkC 100 7, qkC 100 8, zc324, zc156, zc157, qiC 0 [qgN 12 0 0], zc158, zc268, zc159, qkC 100 11, zc160, qkC 100 12, zc161, qkC 100 13, qkC 100 14, qkC 100 15, qkC 100 16, qkC 100 17]
noncomputable def c111_32 : Ct := (111, 2, (18, [qtA 0, qtN 1 0 1001, qtA 9, qtN 10 0 1001], [], [qvR 0, qvR 16], zh342, []),
  [((18, [], [], [qvK (.ofNat 0)], zh342, []), 0, 0)])
noncomputable def c111_32_e : List Ct := [c112_24, c112_8]
noncomputable def c111_32_pts : List PE := []
set_option maxRecDepth 100000 in
theorem c111_32_k : enCtF c111_32 c111_32_e (pkP (c111_32_pts ++ []) []) (none) noH 9000 = true := by decide +kernel
set_option maxRecDepth 100000 in
theorem c111_32_v : ValidC PPk c111_32 := ct_ok fpk noH_ok (d := 1) (ext := []) (pts := c111_32_pts) (env := c111_32_e) rfl (List.forall_mem_cons.mpr ⟨⟨c112_24_v, Nat.le_of_ble_eq_true rfl⟩, List.forall_mem_cons.mpr ⟨⟨c112_8_v, Nat.le_of_ble_eq_true rfl⟩, fun _ h => (by cases h)⟩⟩) ext_nil (fun q h => (by cases h)) (enF c111_32_k) (fun _ h => (by cases h))

noncomputable def zh343 : AH := [zc131, zc15, qrC 4 [some 3, some 8], zc16, qkC 100 0, qkC 100 1, qkC 100 2, qkC 100 3, zc17, qkC 100 4, qkC 100 5, qkC 100 6, qkC 100 7, zc18, qkC 100 8, qkC 100 9, qkC 100 10, qkC 100 11, qkC 100 12, qkC 100 13, qkC 100 14, zc19, qkC 100 15, qkC 100 16, qkC 100 17, qkC 100 18, qkC 100 19, qkC 100 20, zc20, qkC 102 21, qkC 100 22, qjC 1 1000000060, zc21, qkC 100 23, qkC 100 24, qkC 100 25, qkC 100 26, qkC 100 27, qkC 100 28, qkC 100 29, qkC 100 30, zc130, qjC 1 1000000006, qjC 1 1000000004, zc241, zc162, zc163, qiC 0 [qgN 12 0 0], zc164, qiC 0 [qgN 12 0 0], zc165, qkC 100 33, zc132, qkC 100 34, zc166, qkC 100 35, qkC 100 36, qkC 100 37, qkC 100 38, qkC 100 39, zc326, zc168, zc169, qiC 0 [qgN 12 0 0], zc170, zc268, zc171, qkC 100 42, zc133, qkC 100 43, zc172, qkC 100 44, qkC 100 45, qkC 100 46, qkC 100 47, qkC 100 48, qkC 100 49, qkC 100 50]
noncomputable def c110_32 : Ct := (110, 3, (51, [qtA 31, qtN 32 0 1001, qtA 40, qtN 41 0 1001], [], [qvR 0], zh343, []),
  [((51, [], [], [qvK (.ofNat 3)], zh343, []), 0, 0)])
noncomputable def c110_32_e : List Ct := [c111_32]
noncomputable def c110_32_pts : List PE := []
set_option maxRecDepth 100000 in
theorem c110_32_k : enCtF c110_32 c110_32_e (pkP (c110_32_pts ++ []) []) (none) noH 3000 = true := by decide +kernel
set_option maxRecDepth 100000 in
theorem c110_32_v : ValidC PPk c110_32 := ct_ok fpk noH_ok (d := 2) (ext := []) (pts := c110_32_pts) (env := c110_32_e) rfl (List.forall_mem_cons.mpr ⟨⟨c111_32_v, Nat.le_of_ble_eq_true rfl⟩, fun _ h => (by cases h)⟩) ext_nil (fun q h => (by cases h)) (enF c110_32_k) (fun _ h => (by cases h))

noncomputable def zh344 : AH := [zc98, zc31, zc32, qiC 0 [qgN 12 0 0], zc33, qiC 0 [qgN 12 0 0], zc34, qkC 100 2, zc14, qkC 100 3, zc35, qkC 100 4, qkC 100 5, qkC 100 6, qkC 100 7, qkC 100 8, zc324, zc156, zc157, qiC 0 [qgN 12 0 0], zc158, zc203, zc159, qkC 100 12, zc160, qkC 100 13, zc161, qkC 100 14, qkC 100 15, qkC 100 16, qkC 100 17, qkC 100 18]
noncomputable def c111_33 : Ct := (111, 2, (19, [qtA 0, qtN 1 0 1001, qtA 9, qtN 10 0 1001, qtN 11 1 1073741824], [], [qvR 0, qvR 16], zh344, []),
  [((19, [], [], [qvK (.ofNat 0)], zh344, []), 0, 0)])
noncomputable def c111_33_e : List Ct := [c112_24, c112_9]
noncomputable def c111_33_pts : List PE := []
set_option maxRecDepth 100000 in
theorem c111_33_k : enCtF c111_33 c111_33_e (pkP (c111_33_pts ++ []) []) (none) noH 9000 = true := by decide +kernel
set_option maxRecDepth 100000 in
theorem c111_33_v : ValidC PPk c111_33 := ct_ok fpk noH_ok (d := 1) (ext := []) (pts := c111_33_pts) (env := c111_33_e) rfl (List.forall_mem_cons.mpr ⟨⟨c112_24_v, Nat.le_of_ble_eq_true rfl⟩, List.forall_mem_cons.mpr ⟨⟨c112_9_v, Nat.le_of_ble_eq_true rfl⟩, fun _ h => (by cases h)⟩⟩) ext_nil (fun q h => (by cases h)) (enF c111_33_k) (fun _ h => (by cases h))

noncomputable def zh345 : AH := [zc131, zc15, qrC 4 [some 3, some 8], zc16, qkC 100 0, qkC 100 1, qkC 100 2, qkC 100 3, zc17, qkC 100 4, qkC 100 5, qkC 100 6, qkC 100 7, zc18, qkC 100 8, qkC 100 9, qkC 100 10, qkC 100 11, qkC 100 12, qkC 100 13, qkC 100 14, zc19, qkC 100 15, qkC 100 16, qkC 100 17, qkC 100 18, qkC 100 19, qkC 100 20, zc20, qkC 102 21, qkC 100 22, qjC 1 1000000060, zc21, qkC 100 23, qkC 100 24, qkC 100 25, qkC 100 26, qkC 100 27, qkC 100 28, qkC 100 29, qkC 100 30, zc130, qjC 1 1000000006, qjC 1 1000000004, zc241, zc162, zc163, qiC 0 [qgN 12 0 0], zc164, qiC 0 [qgN 12 0 0], zc165, qkC 100 33, zc132, qkC 100 34, zc166, qkC 100 35, qkC 100 36, qkC 100 37, qkC 100 38, qkC 100 39, zc326, zc168, zc169, qiC 0 [qgN 12 0 0], zc170, qiC 0 [qgN 2 0 0, qgS 42, qgN 9 0 0], zc171, qkC 100 43, zc133, qkC 100 44, zc172, qkC 100 45, qkC 100 46, qkC 100 47, qkC 100 48, qkC 100 49, qkC 100 50, qkC 100 51]
noncomputable def c110_33 : Ct := (110, 3, (52, [qtA 31, qtN 32 0 1001, qtA 40, qtN 41 0 1001, qtN 42 1 1073741824], [], [qvR 0], zh345, []),
  [((52, [], [], [qvK (.ofNat 3)], zh345, []), 0, 0)])
noncomputable def c110_33_e : List Ct := [c111_33]
noncomputable def c110_33_pts : List PE := []
set_option maxRecDepth 100000 in
theorem c110_33_k : enCtF c110_33 c110_33_e (pkP (c110_33_pts ++ []) []) (none) noH 3000 = true := by decide +kernel
set_option maxRecDepth 100000 in
theorem c110_33_v : ValidC PPk c110_33 := ct_ok fpk noH_ok (d := 2) (ext := []) (pts := c110_33_pts) (env := c110_33_e) rfl (List.forall_mem_cons.mpr ⟨⟨c111_33_v, Nat.le_of_ble_eq_true rfl⟩, fun _ h => (by cases h)⟩) ext_nil (fun q h => (by cases h)) (enF c110_33_k) (fun _ h => (by cases h))

noncomputable def zh346 : AH := [zc98, zc31, zc32, qiC 0 [qgN 12 0 0], zc33, qiC 0 [qgN 12 0 0], zc34, qkC 100 2, zc14, qkC 100 3, zc35, qkC 100 4, qkC 100 5, qkC 100 6, qkC 100 7, qkC 100 8, zc324, zc156, zc157, qiC 0 [qgN 12 0 0], zc158, zc275, zc159, qkC 100 11, zc160, qkC 100 12, zc161, qkC 100 13, qkC 100 14, qkC 100 15, qkC 100 16, qkC 100 17]
noncomputable def c111_34 : Ct := (111, 2, (18, [qtA 0, qtN 1 0 1001, qtA 9, qtN 10 0 1001], [], [qvR 0, qvR 16], zh346, []),
  [((18, [], [], [qvK (.ofNat 0)], zh346, []), 0, 0)])
noncomputable def c111_34_e : List Ct := [c112_10, c112_24]
noncomputable def c111_34_pts : List PE := []
set_option maxRecDepth 100000 in
theorem c111_34_k : enCtF c111_34 c111_34_e (pkP (c111_34_pts ++ []) []) (none) noH 9000 = true := by decide +kernel
set_option maxRecDepth 100000 in
theorem c111_34_v : ValidC PPk c111_34 := ct_ok fpk noH_ok (d := 1) (ext := []) (pts := c111_34_pts) (env := c111_34_e) rfl (List.forall_mem_cons.mpr ⟨⟨c112_10_v, Nat.le_of_ble_eq_true rfl⟩, List.forall_mem_cons.mpr ⟨⟨c112_24_v, Nat.le_of_ble_eq_true rfl⟩, fun _ h => (by cases h)⟩⟩) ext_nil (fun q h => (by cases h)) (enF c111_34_k) (fun _ h => (by cases h))

noncomputable def zh347 : AH := [zc131, zc15, qrC 4 [some 3, some 8], zc16, qkC 100 0, qkC 100 1, qkC 100 2, qkC 100 3, zc17, qkC 100 4, qkC 100 5, qkC 100 6, qkC 100 7, zc18, qkC 100 8, qkC 100 9, qkC 100 10, qkC 100 11, qkC 100 12, qkC 100 13, qkC 100 14, zc19, qkC 100 15, qkC 100 16, qkC 100 17, qkC 100 18, qkC 100 19, qkC 100 20, zc20, qkC 102 21, qkC 100 22, qjC 1 1000000060, zc21, qkC 100 23, qkC 100 24, qkC 100 25, qkC 100 26, qkC 100 27, qkC 100 28, qkC 100 29, qkC 100 30, zc130, qjC 1 1000000006, qjC 1 1000000004, zc241, zc162, zc163, qiC 0 [qgN 12 0 0], zc164, qiC 0 [qgN 12 0 0], zc165, qkC 100 33, zc132, qkC 100 34, zc166, qkC 100 35, qkC 100 36, qkC 100 37, qkC 100 38, qkC 100 39, zc326, zc168, zc169, qiC 0 [qgN 12 0 0], zc170, zc275, zc171, qkC 100 42, zc133, qkC 100 43, zc172, qkC 100 44, qkC 100 45, qkC 100 46, qkC 100 47, qkC 100 48, qkC 100 49, qkC 100 50]
noncomputable def c110_34 : Ct := (110, 3, (51, [qtA 31, qtN 32 0 1001, qtA 40, qtN 41 0 1001], [], [qvR 0], zh347, []),
  [((51, [], [], [qvK (.ofNat 3)], zh347, []), 0, 0)])
noncomputable def c110_34_e : List Ct := [c111_34]
noncomputable def c110_34_pts : List PE := []
set_option maxRecDepth 100000 in
theorem c110_34_k : enCtF c110_34 c110_34_e (pkP (c110_34_pts ++ []) []) (none) noH 3000 = true := by decide +kernel
set_option maxRecDepth 100000 in
theorem c110_34_v : ValidC PPk c110_34 := ct_ok fpk noH_ok (d := 2) (ext := []) (pts := c110_34_pts) (env := c110_34_e) rfl (List.forall_mem_cons.mpr ⟨⟨c111_34_v, Nat.le_of_ble_eq_true rfl⟩, fun _ h => (by cases h)⟩) ext_nil (fun q h => (by cases h)) (enF c110_34_k) (fun _ h => (by cases h))

noncomputable def zh348 : AH := [zc98, zc31, zc32, qiC 0 [qgN 12 0 0], zc33, qiC 0 [qgN 12 0 0], zc34, qkC 100 2, zc14, qkC 100 3, zc35, qkC 100 4, qkC 100 5, qkC 100 6, qkC 100 7, qkC 100 8, zc324, zc156, zc157, qiC 0 [qgN 12 0 0], zc158, zc207, zc159, qkC 100 12, zc160, qkC 100 13, zc161, qkC 100 14, qkC 100 15, qkC 100 16, qkC 100 17, qkC 100 18]
noncomputable def c111_35 : Ct := (111, 2, (19, [qtA 0, qtN 1 0 1001, qtA 9, qtN 10 0 1001, qtN 11 1 1073741824], [], [qvR 0, qvR 16], zh348, []),
  [((19, [], [], [qvK (.ofNat 0)], zh348, []), 0, 0)])
noncomputable def c111_35_e : List Ct := [c112_11, c112_24]
noncomputable def c111_35_pts : List PE := []
set_option maxRecDepth 100000 in
theorem c111_35_k : enCtF c111_35 c111_35_e (pkP (c111_35_pts ++ []) []) (none) noH 9000 = true := by decide +kernel
set_option maxRecDepth 100000 in
theorem c111_35_v : ValidC PPk c111_35 := ct_ok fpk noH_ok (d := 1) (ext := []) (pts := c111_35_pts) (env := c111_35_e) rfl (List.forall_mem_cons.mpr ⟨⟨c112_11_v, Nat.le_of_ble_eq_true rfl⟩, List.forall_mem_cons.mpr ⟨⟨c112_24_v, Nat.le_of_ble_eq_true rfl⟩, fun _ h => (by cases h)⟩⟩) ext_nil (fun q h => (by cases h)) (enF c111_35_k) (fun _ h => (by cases h))

noncomputable def zh349 : AH := [zc131, zc15, qrC 4 [some 3, some 8], zc16, qkC 100 0, qkC 100 1, qkC 100 2, qkC 100 3, zc17, qkC 100 4, qkC 100 5, qkC 100 6, qkC 100 7, zc18, qkC 100 8, qkC 100 9, qkC 100 10, qkC 100 11, qkC 100 12, qkC 100 13, qkC 100 14, zc19, qkC 100 15, qkC 100 16, qkC 100 17, qkC 100 18, qkC 100 19, qkC 100 20, zc20, qkC 102 21, qkC 100 22, qjC 1 1000000060, zc21, qkC 100 23, qkC 100 24, qkC 100 25, qkC 100 26, qkC 100 27, qkC 100 28, qkC 100 29, qkC 100 30, zc130, qjC 1 1000000006, qjC 1 1000000004, zc241, zc162, zc163, qiC 0 [qgN 12 0 0], zc164, qiC 0 [qgN 12 0 0], zc165, qkC 100 33, zc132, qkC 100 34, zc166, qkC 100 35, qkC 100 36, qkC 100 37, qkC 100 38, qkC 100 39, zc326, zc168, zc169, qiC 0 [qgN 12 0 0], zc170, qiC 0 [qgN 3 0 0, qgS 42, qgN 8 0 0], zc171, qkC 100 43, zc133, qkC 100 44, zc172, qkC 100 45, qkC 100 46, qkC 100 47, qkC 100 48, qkC 100 49, qkC 100 50, qkC 100 51]
noncomputable def c110_35 : Ct := (110, 3, (52, [qtA 31, qtN 32 0 1001, qtA 40, qtN 41 0 1001, qtN 42 1 1073741824], [], [qvR 0], zh349, []),
  [((52, [], [], [qvK (.ofNat 3)], zh349, []), 0, 0)])
noncomputable def c110_35_e : List Ct := [c111_35]
noncomputable def c110_35_pts : List PE := []
set_option maxRecDepth 100000 in
theorem c110_35_k : enCtF c110_35 c110_35_e (pkP (c110_35_pts ++ []) []) (none) noH 3000 = true := by decide +kernel
set_option maxRecDepth 100000 in
theorem c110_35_v : ValidC PPk c110_35 := ct_ok fpk noH_ok (d := 2) (ext := []) (pts := c110_35_pts) (env := c110_35_e) rfl (List.forall_mem_cons.mpr ⟨⟨c111_35_v, Nat.le_of_ble_eq_true rfl⟩, fun _ h => (by cases h)⟩) ext_nil (fun q h => (by cases h)) (enF c110_35_k) (fun _ h => (by cases h))

noncomputable def zh350 : AH := [zc98, zc31, zc32, qiC 0 [qgN 12 0 0], zc33, qiC 0 [qgN 12 0 0], zc34, qkC 100 2, zc14, qkC 100 3, zc35, qkC 100 4, qkC 100 5, qkC 100 6, qkC 100 7, qkC 100 8, zc324, zc156, zc157, qiC 0 [qgN 12 0 0], zc158, zc282, zc159, qkC 100 11, zc160, qkC 100 12, zc161, qkC 100 13, qkC 100 14, qkC 100 15, qkC 100 16, qkC 100 17]
noncomputable def c111_36 : Ct := (111, 2, (18, [qtA 0, qtN 1 0 1001, qtA 9, qtN 10 0 1001], [], [qvR 0, qvR 16], zh350, []),
  [((18, [], [], [qvK (.ofNat 0)], zh350, []), 0, 0)])
noncomputable def c111_36_e : List Ct := [c112_12, c112_24]
noncomputable def c111_36_pts : List PE := []
set_option maxRecDepth 100000 in
theorem c111_36_k : enCtF c111_36 c111_36_e (pkP (c111_36_pts ++ []) []) (none) noH 9000 = true := by decide +kernel
set_option maxRecDepth 100000 in
theorem c111_36_v : ValidC PPk c111_36 := ct_ok fpk noH_ok (d := 1) (ext := []) (pts := c111_36_pts) (env := c111_36_e) rfl (List.forall_mem_cons.mpr ⟨⟨c112_12_v, Nat.le_of_ble_eq_true rfl⟩, List.forall_mem_cons.mpr ⟨⟨c112_24_v, Nat.le_of_ble_eq_true rfl⟩, fun _ h => (by cases h)⟩⟩) ext_nil (fun q h => (by cases h)) (enF c111_36_k) (fun _ h => (by cases h))

noncomputable def zh351 : AH := [zc131, zc15, qrC 4 [some 3, some 8], zc16, qkC 100 0, qkC 100 1, qkC 100 2, qkC 100 3, zc17, qkC 100 4, qkC 100 5, qkC 100 6, qkC 100 7, zc18, qkC 100 8, qkC 100 9, qkC 100 10, qkC 100 11, qkC 100 12, qkC 100 13, qkC 100 14, zc19, qkC 100 15, qkC 100 16, qkC 100 17, qkC 100 18, qkC 100 19, qkC 100 20, zc20, qkC 102 21, qkC 100 22, qjC 1 1000000060, zc21, qkC 100 23, qkC 100 24, qkC 100 25, qkC 100 26, qkC 100 27, qkC 100 28, qkC 100 29, qkC 100 30, zc130, qjC 1 1000000006, qjC 1 1000000004, zc241, zc162, zc163, qiC 0 [qgN 12 0 0], zc164, qiC 0 [qgN 12 0 0], zc165, qkC 100 33, zc132, qkC 100 34, zc166, qkC 100 35, qkC 100 36, qkC 100 37, qkC 100 38, qkC 100 39, zc326, zc168, zc169, qiC 0 [qgN 12 0 0], zc170, zc282, zc171, qkC 100 42, zc133, qkC 100 43, zc172, qkC 100 44, qkC 100 45, qkC 100 46, qkC 100 47, qkC 100 48, qkC 100 49, qkC 100 50]
noncomputable def c110_36 : Ct := (110, 3, (51, [qtA 31, qtN 32 0 1001, qtA 40, qtN 41 0 1001], [], [qvR 0], zh351, []),
  [((51, [], [], [qvK (.ofNat 3)], zh351, []), 0, 0)])
noncomputable def c110_36_e : List Ct := [c111_36]
noncomputable def c110_36_pts : List PE := []
set_option maxRecDepth 100000 in
theorem c110_36_k : enCtF c110_36 c110_36_e (pkP (c110_36_pts ++ []) []) (none) noH 3000 = true := by decide +kernel
set_option maxRecDepth 100000 in
theorem c110_36_v : ValidC PPk c110_36 := ct_ok fpk noH_ok (d := 2) (ext := []) (pts := c110_36_pts) (env := c110_36_e) rfl (List.forall_mem_cons.mpr ⟨⟨c111_36_v, Nat.le_of_ble_eq_true rfl⟩, fun _ h => (by cases h)⟩) ext_nil (fun q h => (by cases h)) (enF c110_36_k) (fun _ h => (by cases h))

noncomputable def zh352 : AH := [zc98, zc31, zc32, qiC 0 [qgN 12 0 0], zc33, qiC 0 [qgN 12 0 0], zc34, qkC 100 2, zc14, qkC 100 3, zc35, qkC 100 4, qkC 100 5, qkC 100 6, qkC 100 7, qkC 100 8, zc324, zc156, zc157, qiC 0 [qgN 12 0 0], zc158, zc211, zc159, qkC 100 12, zc160, qkC 100 13, zc161, qkC 100 14, qkC 100 15, qkC 100 16, qkC 100 17, qkC 100 18]
noncomputable def c111_37 : Ct := (111, 2, (19, [qtA 0, qtN 1 0 1001, qtA 9, qtN 10 0 1001, qtN 11 1 1073741824], [], [qvR 0, qvR 16], zh352, []),
  [((19, [], [], [qvK (.ofNat 0)], zh352, []), 0, 0)])
noncomputable def c111_37_e : List Ct := [c112_13, c112_24]
noncomputable def c111_37_pts : List PE := []
set_option maxRecDepth 100000 in
theorem c111_37_k : enCtF c111_37 c111_37_e (pkP (c111_37_pts ++ []) []) (none) noH 9000 = true := by decide +kernel
set_option maxRecDepth 100000 in
theorem c111_37_v : ValidC PPk c111_37 := ct_ok fpk noH_ok (d := 1) (ext := []) (pts := c111_37_pts) (env := c111_37_e) rfl (List.forall_mem_cons.mpr ⟨⟨c112_13_v, Nat.le_of_ble_eq_true rfl⟩, List.forall_mem_cons.mpr ⟨⟨c112_24_v, Nat.le_of_ble_eq_true rfl⟩, fun _ h => (by cases h)⟩⟩) ext_nil (fun q h => (by cases h)) (enF c111_37_k) (fun _ h => (by cases h))

noncomputable def zh353 : AH := [zc131, zc15, qrC 4 [some 3, some 8], zc16, qkC 100 0, qkC 100 1, qkC 100 2, qkC 100 3, zc17, qkC 100 4, qkC 100 5, qkC 100 6, qkC 100 7, zc18, qkC 100 8, qkC 100 9, qkC 100 10, qkC 100 11, qkC 100 12, qkC 100 13, qkC 100 14, zc19, qkC 100 15, qkC 100 16, qkC 100 17, qkC 100 18, qkC 100 19, qkC 100 20, zc20, qkC 102 21, qkC 100 22, qjC 1 1000000060, zc21, qkC 100 23, qkC 100 24, qkC 100 25, qkC 100 26, qkC 100 27, qkC 100 28, qkC 100 29, qkC 100 30, zc130, qjC 1 1000000006, qjC 1 1000000004, zc241, zc162, zc163, qiC 0 [qgN 12 0 0], zc164, qiC 0 [qgN 12 0 0], zc165, qkC 100 33, zc132, qkC 100 34, zc166, qkC 100 35, qkC 100 36, qkC 100 37, qkC 100 38, qkC 100 39, zc326, zc168, zc169, qiC 0 [qgN 12 0 0], zc170, qiC 0 [qgN 4 0 0, qgS 42, qgN 7 0 0], zc171, qkC 100 43, zc133, qkC 100 44, zc172, qkC 100 45, qkC 100 46, qkC 100 47, qkC 100 48, qkC 100 49, qkC 100 50, qkC 100 51]
noncomputable def c110_37 : Ct := (110, 3, (52, [qtA 31, qtN 32 0 1001, qtA 40, qtN 41 0 1001, qtN 42 1 1073741824], [], [qvR 0], zh353, []),
  [((52, [], [], [qvK (.ofNat 3)], zh353, []), 0, 0)])
noncomputable def c110_37_e : List Ct := [c111_37]
noncomputable def c110_37_pts : List PE := []
set_option maxRecDepth 100000 in
theorem c110_37_k : enCtF c110_37 c110_37_e (pkP (c110_37_pts ++ []) []) (none) noH 3000 = true := by decide +kernel
set_option maxRecDepth 100000 in
theorem c110_37_v : ValidC PPk c110_37 := ct_ok fpk noH_ok (d := 2) (ext := []) (pts := c110_37_pts) (env := c110_37_e) rfl (List.forall_mem_cons.mpr ⟨⟨c111_37_v, Nat.le_of_ble_eq_true rfl⟩, fun _ h => (by cases h)⟩) ext_nil (fun q h => (by cases h)) (enF c110_37_k) (fun _ h => (by cases h))

noncomputable def zh354 : AH := [zc98, zc31, zc32, qiC 0 [qgN 12 0 0], zc33, qiC 0 [qgN 12 0 0], zc34, qkC 100 2, zc14, qkC 100 3, zc35, qkC 100 4, qkC 100 5, qkC 100 6, qkC 100 7, qkC 100 8, zc324, zc156, zc157, qiC 0 [qgN 12 0 0], zc158, zc289, zc159, qkC 100 11, zc160, qkC 100 12, zc161, qkC 100 13, qkC 100 14, qkC 100 15, qkC 100 16, qkC 100 17]
noncomputable def c111_38 : Ct := (111, 2, (18, [qtA 0, qtN 1 0 1001, qtA 9, qtN 10 0 1001], [], [qvR 0, qvR 16], zh354, []),
  [((18, [], [], [qvK (.ofNat 0)], zh354, []), 0, 0)])
noncomputable def c111_38_e : List Ct := [c112_14, c112_24]
noncomputable def c111_38_pts : List PE := []
set_option maxRecDepth 100000 in
theorem c111_38_k : enCtF c111_38 c111_38_e (pkP (c111_38_pts ++ []) []) (none) noH 9000 = true := by decide +kernel
set_option maxRecDepth 100000 in
theorem c111_38_v : ValidC PPk c111_38 := ct_ok fpk noH_ok (d := 1) (ext := []) (pts := c111_38_pts) (env := c111_38_e) rfl (List.forall_mem_cons.mpr ⟨⟨c112_14_v, Nat.le_of_ble_eq_true rfl⟩, List.forall_mem_cons.mpr ⟨⟨c112_24_v, Nat.le_of_ble_eq_true rfl⟩, fun _ h => (by cases h)⟩⟩) ext_nil (fun q h => (by cases h)) (enF c111_38_k) (fun _ h => (by cases h))

noncomputable def zh355 : AH := [zc131, zc15, qrC 4 [some 3, some 8], zc16, qkC 100 0, qkC 100 1, qkC 100 2, qkC 100 3, zc17, qkC 100 4, qkC 100 5, qkC 100 6, qkC 100 7, zc18, qkC 100 8, qkC 100 9, qkC 100 10, qkC 100 11, qkC 100 12, qkC 100 13, qkC 100 14, zc19, qkC 100 15, qkC 100 16, qkC 100 17, qkC 100 18, qkC 100 19, qkC 100 20, zc20, qkC 102 21, qkC 100 22, qjC 1 1000000060, zc21, qkC 100 23, qkC 100 24, qkC 100 25, qkC 100 26, qkC 100 27, qkC 100 28, qkC 100 29, qkC 100 30, zc130, qjC 1 1000000006, qjC 1 1000000004, zc241, zc162, zc163, qiC 0 [qgN 12 0 0], zc164, qiC 0 [qgN 12 0 0], zc165, qkC 100 33, zc132, qkC 100 34, zc166, qkC 100 35, qkC 100 36, qkC 100 37, qkC 100 38, qkC 100 39, zc326, zc168, zc169, qiC 0 [qgN 12 0 0], zc170, zc289, zc171, qkC 100 42, zc133, qkC 100 43, zc172, qkC 100 44, qkC 100 45, qkC 100 46, qkC 100 47, qkC 100 48, qkC 100 49, qkC 100 50]
noncomputable def c110_38 : Ct := (110, 3, (51, [qtA 31, qtN 32 0 1001, qtA 40, qtN 41 0 1001], [], [qvR 0], zh355, []),
  [((51, [], [], [qvK (.ofNat 3)], zh355, []), 0, 0)])
noncomputable def c110_38_e : List Ct := [c111_38]
noncomputable def c110_38_pts : List PE := []
set_option maxRecDepth 100000 in
theorem c110_38_k : enCtF c110_38 c110_38_e (pkP (c110_38_pts ++ []) []) (none) noH 3000 = true := by decide +kernel
set_option maxRecDepth 100000 in
theorem c110_38_v : ValidC PPk c110_38 := ct_ok fpk noH_ok (d := 2) (ext := []) (pts := c110_38_pts) (env := c110_38_e) rfl (List.forall_mem_cons.mpr ⟨⟨c111_38_v, Nat.le_of_ble_eq_true rfl⟩, fun _ h => (by cases h)⟩) ext_nil (fun q h => (by cases h)) (enF c110_38_k) (fun _ h => (by cases h))

noncomputable def zh356 : AH := [zc98, zc31, zc32, qiC 0 [qgN 12 0 0], zc33, qiC 0 [qgN 12 0 0], zc34, qkC 100 2, zc14, qkC 100 3, zc35, qkC 100 4, qkC 100 5, qkC 100 6, qkC 100 7, qkC 100 8, zc324, zc156, zc157, qiC 0 [qgN 12 0 0], zc158, zc215, zc159, qkC 100 12, zc160, qkC 100 13, zc161, qkC 100 14, qkC 100 15, qkC 100 16, qkC 100 17, qkC 100 18]
noncomputable def c111_39 : Ct := (111, 2, (19, [qtA 0, qtN 1 0 1001, qtA 9, qtN 10 0 1001, qtN 11 1 1073741824], [], [qvR 0, qvR 16], zh356, []),
  [((19, [], [], [qvK (.ofNat 0)], zh356, []), 0, 0)])
noncomputable def c111_39_e : List Ct := [c112_15, c112_24]
noncomputable def c111_39_pts : List PE := []
set_option maxRecDepth 100000 in
theorem c111_39_k : enCtF c111_39 c111_39_e (pkP (c111_39_pts ++ []) []) (none) noH 9000 = true := by decide +kernel
set_option maxRecDepth 100000 in
theorem c111_39_v : ValidC PPk c111_39 := ct_ok fpk noH_ok (d := 1) (ext := []) (pts := c111_39_pts) (env := c111_39_e) rfl (List.forall_mem_cons.mpr ⟨⟨c112_15_v, Nat.le_of_ble_eq_true rfl⟩, List.forall_mem_cons.mpr ⟨⟨c112_24_v, Nat.le_of_ble_eq_true rfl⟩, fun _ h => (by cases h)⟩⟩) ext_nil (fun q h => (by cases h)) (enF c111_39_k) (fun _ h => (by cases h))

noncomputable def zh357 : AH := [zc131, zc15, qrC 4 [some 3, some 8], zc16, qkC 100 0, qkC 100 1, qkC 100 2, qkC 100 3, zc17, qkC 100 4, qkC 100 5, qkC 100 6, qkC 100 7, zc18, qkC 100 8, qkC 100 9, qkC 100 10, qkC 100 11, qkC 100 12, qkC 100 13, qkC 100 14, zc19, qkC 100 15, qkC 100 16, qkC 100 17, qkC 100 18, qkC 100 19, qkC 100 20, zc20, qkC 102 21, qkC 100 22, qjC 1 1000000060, zc21, qkC 100 23, qkC 100 24, qkC 100 25, qkC 100 26, qkC 100 27, qkC 100 28, qkC 100 29, qkC 100 30, zc130, qjC 1 1000000006, qjC 1 1000000004, zc241, zc162, zc163, qiC 0 [qgN 12 0 0], zc164, qiC 0 [qgN 12 0 0], zc165, qkC 100 33, zc132, qkC 100 34, zc166, qkC 100 35, qkC 100 36, qkC 100 37, qkC 100 38, qkC 100 39, zc326, zc168, zc169, qiC 0 [qgN 12 0 0], zc170, qiC 0 [qgN 5 0 0, qgS 42, qgN 6 0 0], zc171, qkC 100 43, zc133, qkC 100 44, zc172, qkC 100 45, qkC 100 46, qkC 100 47, qkC 100 48, qkC 100 49, qkC 100 50, qkC 100 51]
noncomputable def c110_39 : Ct := (110, 3, (52, [qtA 31, qtN 32 0 1001, qtA 40, qtN 41 0 1001, qtN 42 1 1073741824], [], [qvR 0], zh357, []),
  [((52, [], [], [qvK (.ofNat 3)], zh357, []), 0, 0)])
noncomputable def c110_39_e : List Ct := [c111_39]
noncomputable def c110_39_pts : List PE := []
set_option maxRecDepth 100000 in
theorem c110_39_k : enCtF c110_39 c110_39_e (pkP (c110_39_pts ++ []) []) (none) noH 3000 = true := by decide +kernel
set_option maxRecDepth 100000 in
theorem c110_39_v : ValidC PPk c110_39 := ct_ok fpk noH_ok (d := 2) (ext := []) (pts := c110_39_pts) (env := c110_39_e) rfl (List.forall_mem_cons.mpr ⟨⟨c111_39_v, Nat.le_of_ble_eq_true rfl⟩, fun _ h => (by cases h)⟩) ext_nil (fun q h => (by cases h)) (enF c110_39_k) (fun _ h => (by cases h))

noncomputable def zh358 : AH := [zc98, zc31, zc32, qiC 0 [qgN 12 0 0], zc33, qiC 0 [qgN 12 0 0], zc34, qkC 100 2, zc14, qkC 100 3, zc35, qkC 100 4, qkC 100 5, qkC 100 6, qkC 100 7, qkC 100 8, zc324, zc156, zc157, qiC 0 [qgN 12 0 0], zc158, zc296, zc159, qkC 100 11, zc160, qkC 100 12, zc161, qkC 100 13, qkC 100 14, qkC 100 15, qkC 100 16, qkC 100 17]
noncomputable def c111_40 : Ct := (111, 2, (18, [qtA 0, qtN 1 0 1001, qtA 9, qtN 10 0 1001], [], [qvR 0, qvR 16], zh358, []),
  [((18, [], [], [qvK (.ofNat 0)], zh358, []), 0, 0)])
noncomputable def c111_40_e : List Ct := [c112_16, c112_24]
noncomputable def c111_40_pts : List PE := []
set_option maxRecDepth 100000 in
theorem c111_40_k : enCtF c111_40 c111_40_e (pkP (c111_40_pts ++ []) []) (none) noH 9000 = true := by decide +kernel
set_option maxRecDepth 100000 in
theorem c111_40_v : ValidC PPk c111_40 := ct_ok fpk noH_ok (d := 1) (ext := []) (pts := c111_40_pts) (env := c111_40_e) rfl (List.forall_mem_cons.mpr ⟨⟨c112_16_v, Nat.le_of_ble_eq_true rfl⟩, List.forall_mem_cons.mpr ⟨⟨c112_24_v, Nat.le_of_ble_eq_true rfl⟩, fun _ h => (by cases h)⟩⟩) ext_nil (fun q h => (by cases h)) (enF c111_40_k) (fun _ h => (by cases h))

noncomputable def zh359 : AH := [zc131, zc15, qrC 4 [some 3, some 8], zc16, qkC 100 0, qkC 100 1, qkC 100 2, qkC 100 3, zc17, qkC 100 4, qkC 100 5, qkC 100 6, qkC 100 7, zc18, qkC 100 8, qkC 100 9, qkC 100 10, qkC 100 11, qkC 100 12, qkC 100 13, qkC 100 14, zc19, qkC 100 15, qkC 100 16, qkC 100 17, qkC 100 18, qkC 100 19, qkC 100 20, zc20, qkC 102 21, qkC 100 22, qjC 1 1000000060, zc21, qkC 100 23, qkC 100 24, qkC 100 25, qkC 100 26, qkC 100 27, qkC 100 28, qkC 100 29, qkC 100 30, zc130, qjC 1 1000000006, qjC 1 1000000004, zc241, zc162, zc163, qiC 0 [qgN 12 0 0], zc164, qiC 0 [qgN 12 0 0], zc165, qkC 100 33, zc132, qkC 100 34, zc166, qkC 100 35, qkC 100 36, qkC 100 37, qkC 100 38, qkC 100 39, zc326, zc168, zc169, qiC 0 [qgN 12 0 0], zc170, zc296, zc171, qkC 100 42, zc133, qkC 100 43, zc172, qkC 100 44, qkC 100 45, qkC 100 46, qkC 100 47, qkC 100 48, qkC 100 49, qkC 100 50]
noncomputable def c110_40 : Ct := (110, 3, (51, [qtA 31, qtN 32 0 1001, qtA 40, qtN 41 0 1001], [], [qvR 0], zh359, []),
  [((51, [], [], [qvK (.ofNat 3)], zh359, []), 0, 0)])
noncomputable def c110_40_e : List Ct := [c111_40]
noncomputable def c110_40_pts : List PE := []
set_option maxRecDepth 100000 in
theorem c110_40_k : enCtF c110_40 c110_40_e (pkP (c110_40_pts ++ []) []) (none) noH 3000 = true := by decide +kernel
set_option maxRecDepth 100000 in
theorem c110_40_v : ValidC PPk c110_40 := ct_ok fpk noH_ok (d := 2) (ext := []) (pts := c110_40_pts) (env := c110_40_e) rfl (List.forall_mem_cons.mpr ⟨⟨c111_40_v, Nat.le_of_ble_eq_true rfl⟩, fun _ h => (by cases h)⟩) ext_nil (fun q h => (by cases h)) (enF c110_40_k) (fun _ h => (by cases h))

noncomputable def zh360 : AH := [zc98, zc31, zc32, qiC 0 [qgN 12 0 0], zc33, qiC 0 [qgN 12 0 0], zc34, qkC 100 2, zc14, qkC 100 3, zc35, qkC 100 4, qkC 100 5, qkC 100 6, qkC 100 7, qkC 100 8, zc324, zc156, zc157, qiC 0 [qgN 12 0 0], zc158, zc219, zc159, qkC 100 12, zc160, qkC 100 13, zc161, qkC 100 14, qkC 100 15, qkC 100 16, qkC 100 17, qkC 100 18]
noncomputable def c111_41 : Ct := (111, 2, (19, [qtA 0, qtN 1 0 1001, qtA 9, qtN 10 0 1001, qtN 11 1 1073741824], [], [qvR 0, qvR 16], zh360, []),
  [((19, [], [], [qvK (.ofNat 0)], zh360, []), 0, 0)])
noncomputable def c111_41_e : List Ct := [c112_17, c112_24]
noncomputable def c111_41_pts : List PE := []
set_option maxRecDepth 100000 in
theorem c111_41_k : enCtF c111_41 c111_41_e (pkP (c111_41_pts ++ []) []) (none) noH 9000 = true := by decide +kernel
set_option maxRecDepth 100000 in
theorem c111_41_v : ValidC PPk c111_41 := ct_ok fpk noH_ok (d := 1) (ext := []) (pts := c111_41_pts) (env := c111_41_e) rfl (List.forall_mem_cons.mpr ⟨⟨c112_17_v, Nat.le_of_ble_eq_true rfl⟩, List.forall_mem_cons.mpr ⟨⟨c112_24_v, Nat.le_of_ble_eq_true rfl⟩, fun _ h => (by cases h)⟩⟩) ext_nil (fun q h => (by cases h)) (enF c111_41_k) (fun _ h => (by cases h))

noncomputable def zh361 : AH := [zc131, zc15, qrC 4 [some 3, some 8], zc16, qkC 100 0, qkC 100 1, qkC 100 2, qkC 100 3, zc17, qkC 100 4, qkC 100 5, qkC 100 6, qkC 100 7, zc18, qkC 100 8, qkC 100 9, qkC 100 10, qkC 100 11, qkC 100 12, qkC 100 13, qkC 100 14, zc19, qkC 100 15, qkC 100 16, qkC 100 17, qkC 100 18, qkC 100 19, qkC 100 20, zc20, qkC 102 21, qkC 100 22, qjC 1 1000000060, zc21, qkC 100 23, qkC 100 24, qkC 100 25, qkC 100 26, qkC 100 27, qkC 100 28, qkC 100 29, qkC 100 30, zc130, qjC 1 1000000006, qjC 1 1000000004, zc241, zc162, zc163, qiC 0 [qgN 12 0 0], zc164, qiC 0 [qgN 12 0 0], zc165, qkC 100 33, zc132, qkC 100 34, zc166, qkC 100 35, qkC 100 36, qkC 100 37, qkC 100 38, qkC 100 39, zc326, zc168, zc169, qiC 0 [qgN 12 0 0], zc170, qiC 0 [qgN 6 0 0, qgS 42, qgN 5 0 0], zc171, qkC 100 43, zc133, qkC 100 44, zc172, qkC 100 45, qkC 100 46, qkC 100 47, qkC 100 48, qkC 100 49, qkC 100 50, qkC 100 51]
noncomputable def c110_41 : Ct := (110, 3, (52, [qtA 31, qtN 32 0 1001, qtA 40, qtN 41 0 1001, qtN 42 1 1073741824], [], [qvR 0], zh361, []),
  [((52, [], [], [qvK (.ofNat 3)], zh361, []), 0, 0)])
noncomputable def c110_41_e : List Ct := [c111_41]
noncomputable def c110_41_pts : List PE := []
set_option maxRecDepth 100000 in
theorem c110_41_k : enCtF c110_41 c110_41_e (pkP (c110_41_pts ++ []) []) (none) noH 3000 = true := by decide +kernel
set_option maxRecDepth 100000 in
theorem c110_41_v : ValidC PPk c110_41 := ct_ok fpk noH_ok (d := 2) (ext := []) (pts := c110_41_pts) (env := c110_41_e) rfl (List.forall_mem_cons.mpr ⟨⟨c111_41_v, Nat.le_of_ble_eq_true rfl⟩, fun _ h => (by cases h)⟩) ext_nil (fun q h => (by cases h)) (enF c110_41_k) (fun _ h => (by cases h))

noncomputable def zh362 : AH := [zc98, zc31, zc32, qiC 0 [qgN 12 0 0], zc33, qiC 0 [qgN 12 0 0], zc34, qkC 100 2, zc14, qkC 100 3, zc35, qkC 100 4, qkC 100 5, qkC 100 6, qkC 100 7, qkC 100 8, zc324, zc156, zc157, qiC 0 [qgN 12 0 0], zc158, zc303, zc159, qkC 100 11, zc160, qkC 100 12, zc161, qkC 100 13, qkC 100 14, qkC 100 15, qkC 100 16, qkC 100 17]
noncomputable def c111_42 : Ct := (111, 2, (18, [qtA 0, qtN 1 0 1001, qtA 9, qtN 10 0 1001], [], [qvR 0, qvR 16], zh362, []),
  [((18, [], [], [qvK (.ofNat 0)], zh362, []), 0, 0)])
noncomputable def c111_42_e : List Ct := [c112_18, c112_24]
noncomputable def c111_42_pts : List PE := []
set_option maxRecDepth 100000 in
theorem c111_42_k : enCtF c111_42 c111_42_e (pkP (c111_42_pts ++ []) []) (none) noH 9000 = true := by decide +kernel
set_option maxRecDepth 100000 in
theorem c111_42_v : ValidC PPk c111_42 := ct_ok fpk noH_ok (d := 1) (ext := []) (pts := c111_42_pts) (env := c111_42_e) rfl (List.forall_mem_cons.mpr ⟨⟨c112_18_v, Nat.le_of_ble_eq_true rfl⟩, List.forall_mem_cons.mpr ⟨⟨c112_24_v, Nat.le_of_ble_eq_true rfl⟩, fun _ h => (by cases h)⟩⟩) ext_nil (fun q h => (by cases h)) (enF c111_42_k) (fun _ h => (by cases h))

noncomputable def zh363 : AH := [zc131, zc15, qrC 4 [some 3, some 8], zc16, qkC 100 0, qkC 100 1, qkC 100 2, qkC 100 3, zc17, qkC 100 4, qkC 100 5, qkC 100 6, qkC 100 7, zc18, qkC 100 8, qkC 100 9, qkC 100 10, qkC 100 11, qkC 100 12, qkC 100 13, qkC 100 14, zc19, qkC 100 15, qkC 100 16, qkC 100 17, qkC 100 18, qkC 100 19, qkC 100 20, zc20, qkC 102 21, qkC 100 22, qjC 1 1000000060, zc21, qkC 100 23, qkC 100 24, qkC 100 25, qkC 100 26, qkC 100 27, qkC 100 28, qkC 100 29, qkC 100 30, zc130, qjC 1 1000000006, qjC 1 1000000004, zc241, zc162, zc163, qiC 0 [qgN 12 0 0], zc164, qiC 0 [qgN 12 0 0], zc165, qkC 100 33, zc132, qkC 100 34, zc166, qkC 100 35, qkC 100 36, qkC 100 37, qkC 100 38, qkC 100 39, zc326, zc168, zc169, qiC 0 [qgN 12 0 0], zc170, zc303, zc171, qkC 100 42, zc133, qkC 100 43, zc172, qkC 100 44, qkC 100 45, qkC 100 46, qkC 100 47, qkC 100 48, qkC 100 49, qkC 100 50]
noncomputable def c110_42 : Ct := (110, 3, (51, [qtA 31, qtN 32 0 1001, qtA 40, qtN 41 0 1001], [], [qvR 0], zh363, []),
  [((51, [], [], [qvK (.ofNat 3)], zh363, []), 0, 0)])
noncomputable def c110_42_e : List Ct := [c111_42]
noncomputable def c110_42_pts : List PE := []
set_option maxRecDepth 100000 in
theorem c110_42_k : enCtF c110_42 c110_42_e (pkP (c110_42_pts ++ []) []) (none) noH 3000 = true := by decide +kernel
set_option maxRecDepth 100000 in
theorem c110_42_v : ValidC PPk c110_42 := ct_ok fpk noH_ok (d := 2) (ext := []) (pts := c110_42_pts) (env := c110_42_e) rfl (List.forall_mem_cons.mpr ⟨⟨c111_42_v, Nat.le_of_ble_eq_true rfl⟩, fun _ h => (by cases h)⟩) ext_nil (fun q h => (by cases h)) (enF c110_42_k) (fun _ h => (by cases h))

noncomputable def zh364 : AH := [zc98, zc31, zc32, qiC 0 [qgN 12 0 0], zc33, qiC 0 [qgN 12 0 0], zc34, qkC 100 2, zc14, qkC 100 3, zc35, qkC 100 4, qkC 100 5, qkC 100 6, qkC 100 7, qkC 100 8, zc324, zc156, zc157, qiC 0 [qgN 12 0 0], zc158, zc223, zc159, qkC 100 12, zc160, qkC 100 13, zc161, qkC 100 14, qkC 100 15, qkC 100 16, qkC 100 17, qkC 100 18]
noncomputable def c111_43 : Ct := (111, 2, (19, [qtA 0, qtN 1 0 1001, qtA 9, qtN 10 0 1001, qtN 11 1 1073741824], [], [qvR 0, qvR 16], zh364, []),
  [((19, [], [], [qvK (.ofNat 0)], zh364, []), 0, 0)])
noncomputable def c111_43_e : List Ct := [c112_19, c112_24]
noncomputable def c111_43_pts : List PE := []
set_option maxRecDepth 100000 in
theorem c111_43_k : enCtF c111_43 c111_43_e (pkP (c111_43_pts ++ []) []) (none) noH 9000 = true := by decide +kernel
set_option maxRecDepth 100000 in
theorem c111_43_v : ValidC PPk c111_43 := ct_ok fpk noH_ok (d := 1) (ext := []) (pts := c111_43_pts) (env := c111_43_e) rfl (List.forall_mem_cons.mpr ⟨⟨c112_19_v, Nat.le_of_ble_eq_true rfl⟩, List.forall_mem_cons.mpr ⟨⟨c112_24_v, Nat.le_of_ble_eq_true rfl⟩, fun _ h => (by cases h)⟩⟩) ext_nil (fun q h => (by cases h)) (enF c111_43_k) (fun _ h => (by cases h))

noncomputable def zh365 : AH := [zc131, zc15, qrC 4 [some 3, some 8], zc16, qkC 100 0, qkC 100 1, qkC 100 2, qkC 100 3, zc17, qkC 100 4, qkC 100 5, qkC 100 6, qkC 100 7, zc18, qkC 100 8, qkC 100 9, qkC 100 10, qkC 100 11, qkC 100 12, qkC 100 13, qkC 100 14, zc19, qkC 100 15, qkC 100 16, qkC 100 17, qkC 100 18, qkC 100 19, qkC 100 20, zc20, qkC 102 21, qkC 100 22, qjC 1 1000000060, zc21, qkC 100 23, qkC 100 24, qkC 100 25, qkC 100 26, qkC 100 27, qkC 100 28, qkC 100 29, qkC 100 30, zc130, qjC 1 1000000006, qjC 1 1000000004, zc241, zc162, zc163, qiC 0 [qgN 12 0 0], zc164, qiC 0 [qgN 12 0 0], zc165, qkC 100 33, zc132, qkC 100 34, zc166, qkC 100 35, qkC 100 36, qkC 100 37, qkC 100 38, qkC 100 39, zc326, zc168, zc169, qiC 0 [qgN 12 0 0], zc170, qiC 0 [qgN 7 0 0, qgS 42, qgN 4 0 0], zc171, qkC 100 43, zc133, qkC 100 44, zc172, qkC 100 45, qkC 100 46, qkC 100 47, qkC 100 48, qkC 100 49, qkC 100 50, qkC 100 51]
noncomputable def c110_43 : Ct := (110, 3, (52, [qtA 31, qtN 32 0 1001, qtA 40, qtN 41 0 1001, qtN 42 1 1073741824], [], [qvR 0], zh365, []),
  [((52, [], [], [qvK (.ofNat 3)], zh365, []), 0, 0)])
noncomputable def c110_43_e : List Ct := [c111_43]
noncomputable def c110_43_pts : List PE := []
set_option maxRecDepth 100000 in
theorem c110_43_k : enCtF c110_43 c110_43_e (pkP (c110_43_pts ++ []) []) (none) noH 3000 = true := by decide +kernel
set_option maxRecDepth 100000 in
theorem c110_43_v : ValidC PPk c110_43 := ct_ok fpk noH_ok (d := 2) (ext := []) (pts := c110_43_pts) (env := c110_43_e) rfl (List.forall_mem_cons.mpr ⟨⟨c111_43_v, Nat.le_of_ble_eq_true rfl⟩, fun _ h => (by cases h)⟩) ext_nil (fun q h => (by cases h)) (enF c110_43_k) (fun _ h => (by cases h))

noncomputable def zh366 : AH := [zc98, zc31, zc32, qiC 0 [qgN 12 0 0], zc33, qiC 0 [qgN 12 0 0], zc34, qkC 100 2, zc14, qkC 100 3, zc35, qkC 100 4, qkC 100 5, qkC 100 6, qkC 100 7, qkC 100 8, zc324, zc156, zc157, qiC 0 [qgN 12 0 0], zc158, zc310, zc159, qkC 100 11, zc160, qkC 100 12, zc161, qkC 100 13, qkC 100 14, qkC 100 15, qkC 100 16, qkC 100 17]
noncomputable def c111_44 : Ct := (111, 2, (18, [qtA 0, qtN 1 0 1001, qtA 9, qtN 10 0 1001], [], [qvR 0, qvR 16], zh366, []),
  [((18, [], [], [qvK (.ofNat 0)], zh366, []), 0, 0)])
noncomputable def c111_44_e : List Ct := [c112_20, c112_24]
noncomputable def c111_44_pts : List PE := []
set_option maxRecDepth 100000 in
theorem c111_44_k : enCtF c111_44 c111_44_e (pkP (c111_44_pts ++ []) []) (none) noH 9000 = true := by decide +kernel
set_option maxRecDepth 100000 in
theorem c111_44_v : ValidC PPk c111_44 := ct_ok fpk noH_ok (d := 1) (ext := []) (pts := c111_44_pts) (env := c111_44_e) rfl (List.forall_mem_cons.mpr ⟨⟨c112_20_v, Nat.le_of_ble_eq_true rfl⟩, List.forall_mem_cons.mpr ⟨⟨c112_24_v, Nat.le_of_ble_eq_true rfl⟩, fun _ h => (by cases h)⟩⟩) ext_nil (fun q h => (by cases h)) (enF c111_44_k) (fun _ h => (by cases h))

noncomputable def zh367 : AH := [zc131, zc15, qrC 4 [some 3, some 8], zc16, qkC 100 0, qkC 100 1, qkC 100 2, qkC 100 3, zc17, qkC 100 4, qkC 100 5, qkC 100 6, qkC 100 7, zc18, qkC 100 8, qkC 100 9, qkC 100 10, qkC 100 11, qkC 100 12, qkC 100 13, qkC 100 14, zc19, qkC 100 15, qkC 100 16, qkC 100 17, qkC 100 18, qkC 100 19, qkC 100 20, zc20, qkC 102 21, qkC 100 22, qjC 1 1000000060, zc21, qkC 100 23, qkC 100 24, qkC 100 25, qkC 100 26, qkC 100 27, qkC 100 28, qkC 100 29, qkC 100 30, zc130, qjC 1 1000000006, qjC 1 1000000004, zc241, zc162, zc163, qiC 0 [qgN 12 0 0], zc164, qiC 0 [qgN 12 0 0], zc165, qkC 100 33, zc132, qkC 100 34, zc166, qkC 100 35, qkC 100 36, qkC 100 37, qkC 100 38, qkC 100 39, zc326, zc168, zc169, qiC 0 [qgN 12 0 0], zc170, zc310, zc171, qkC 100 42, zc133, qkC 100 43, zc172, qkC 100 44, qkC 100 45, qkC 100 46, qkC 100 47, qkC 100 48, qkC 100 49, qkC 100 50]
noncomputable def c110_44 : Ct := (110, 3, (51, [qtA 31, qtN 32 0 1001, qtA 40, qtN 41 0 1001], [], [qvR 0], zh367, []),
  [((51, [], [], [qvK (.ofNat 3)], zh367, []), 0, 0)])
noncomputable def c110_44_e : List Ct := [c111_44]
noncomputable def c110_44_pts : List PE := []
set_option maxRecDepth 100000 in
theorem c110_44_k : enCtF c110_44 c110_44_e (pkP (c110_44_pts ++ []) []) (none) noH 3000 = true := by decide +kernel
set_option maxRecDepth 100000 in
theorem c110_44_v : ValidC PPk c110_44 := ct_ok fpk noH_ok (d := 2) (ext := []) (pts := c110_44_pts) (env := c110_44_e) rfl (List.forall_mem_cons.mpr ⟨⟨c111_44_v, Nat.le_of_ble_eq_true rfl⟩, fun _ h => (by cases h)⟩) ext_nil (fun q h => (by cases h)) (enF c110_44_k) (fun _ h => (by cases h))

noncomputable def zh368 : AH := [zc98, zc31, zc32, qiC 0 [qgN 12 0 0], zc33, qiC 0 [qgN 12 0 0], zc34, qkC 100 2, zc14, qkC 100 3, zc35, qkC 100 4, qkC 100 5, qkC 100 6, qkC 100 7, qkC 100 8, zc324, zc156, zc157, qiC 0 [qgN 12 0 0], zc158, zc227, zc159, qkC 100 12, zc160, qkC 100 13, zc161, qkC 100 14, qkC 100 15, qkC 100 16, qkC 100 17, qkC 100 18]
noncomputable def c111_45 : Ct := (111, 2, (19, [qtA 0, qtN 1 0 1001, qtA 9, qtN 10 0 1001, qtN 11 1 1073741824], [], [qvR 0, qvR 16], zh368, []),
  [((19, [], [], [qvK (.ofNat 0)], zh368, []), 0, 0)])
noncomputable def c111_45_e : List Ct := [c112_21, c112_24]
noncomputable def c111_45_pts : List PE := []
set_option maxRecDepth 100000 in
theorem c111_45_k : enCtF c111_45 c111_45_e (pkP (c111_45_pts ++ []) []) (none) noH 9000 = true := by decide +kernel
set_option maxRecDepth 100000 in
theorem c111_45_v : ValidC PPk c111_45 := ct_ok fpk noH_ok (d := 1) (ext := []) (pts := c111_45_pts) (env := c111_45_e) rfl (List.forall_mem_cons.mpr ⟨⟨c112_21_v, Nat.le_of_ble_eq_true rfl⟩, List.forall_mem_cons.mpr ⟨⟨c112_24_v, Nat.le_of_ble_eq_true rfl⟩, fun _ h => (by cases h)⟩⟩) ext_nil (fun q h => (by cases h)) (enF c111_45_k) (fun _ h => (by cases h))

noncomputable def zh369 : AH := [zc131, zc15, qrC 4 [some 3, some 8], zc16, qkC 100 0, qkC 100 1, qkC 100 2, qkC 100 3, zc17, qkC 100 4, qkC 100 5, qkC 100 6, qkC 100 7, zc18, qkC 100 8, qkC 100 9, qkC 100 10, qkC 100 11, qkC 100 12, qkC 100 13, qkC 100 14, zc19, qkC 100 15, qkC 100 16, qkC 100 17, qkC 100 18, qkC 100 19, qkC 100 20, zc20, qkC 102 21, qkC 100 22, qjC 1 1000000060, zc21, qkC 100 23, qkC 100 24, qkC 100 25, qkC 100 26, qkC 100 27, qkC 100 28, qkC 100 29, qkC 100 30, zc130, qjC 1 1000000006, qjC 1 1000000004, zc241, zc162, zc163, qiC 0 [qgN 12 0 0], zc164, qiC 0 [qgN 12 0 0], zc165, qkC 100 33, zc132, qkC 100 34, zc166, qkC 100 35, qkC 100 36, qkC 100 37, qkC 100 38, qkC 100 39, zc326, zc168, zc169, qiC 0 [qgN 12 0 0], zc170, qiC 0 [qgN 8 0 0, qgS 42, qgN 3 0 0], zc171, qkC 100 43, zc133, qkC 100 44, zc172, qkC 100 45, qkC 100 46, qkC 100 47, qkC 100 48, qkC 100 49, qkC 100 50, qkC 100 51]
noncomputable def c110_45 : Ct := (110, 3, (52, [qtA 31, qtN 32 0 1001, qtA 40, qtN 41 0 1001, qtN 42 1 1073741824], [], [qvR 0], zh369, []),
  [((52, [], [], [qvK (.ofNat 3)], zh369, []), 0, 0)])
noncomputable def c110_45_e : List Ct := [c111_45]
noncomputable def c110_45_pts : List PE := []
set_option maxRecDepth 100000 in
theorem c110_45_k : enCtF c110_45 c110_45_e (pkP (c110_45_pts ++ []) []) (none) noH 3000 = true := by decide +kernel
set_option maxRecDepth 100000 in
theorem c110_45_v : ValidC PPk c110_45 := ct_ok fpk noH_ok (d := 2) (ext := []) (pts := c110_45_pts) (env := c110_45_e) rfl (List.forall_mem_cons.mpr ⟨⟨c111_45_v, Nat.le_of_ble_eq_true rfl⟩, fun _ h => (by cases h)⟩) ext_nil (fun q h => (by cases h)) (enF c110_45_k) (fun _ h => (by cases h))

noncomputable def zh370 : AH := [zc98, zc31, zc32, qiC 0 [qgN 12 0 0], zc33, qiC 0 [qgN 12 0 0], zc34, qkC 100 2, zc14, qkC 100 3, zc35, qkC 100 4, qkC 100 5, qkC 100 6, qkC 100 7, qkC 100 8, zc324, zc156, zc157, qiC 0 [qgN 12 0 0], zc158, zc317, zc159, qkC 100 11, zc160, qkC 100 12, zc161, qkC 100 13, qkC 100 14, qkC 100 15, qkC 100 16, qkC 100 17]
noncomputable def c111_46 : Ct := (111, 2, (18, [qtA 0, qtN 1 0 1001, qtA 9, qtN 10 0 1001], [], [qvR 0, qvR 16], zh370, []),
  [((18, [], [], [qvK (.ofNat 0)], zh370, []), 0, 0)])
noncomputable def c111_46_e : List Ct := [c112_22, c112_24]
noncomputable def c111_46_pts : List PE := []
set_option maxRecDepth 100000 in
theorem c111_46_k : enCtF c111_46 c111_46_e (pkP (c111_46_pts ++ []) []) (none) noH 9000 = true := by decide +kernel
set_option maxRecDepth 100000 in
theorem c111_46_v : ValidC PPk c111_46 := ct_ok fpk noH_ok (d := 1) (ext := []) (pts := c111_46_pts) (env := c111_46_e) rfl (List.forall_mem_cons.mpr ⟨⟨c112_22_v, Nat.le_of_ble_eq_true rfl⟩, List.forall_mem_cons.mpr ⟨⟨c112_24_v, Nat.le_of_ble_eq_true rfl⟩, fun _ h => (by cases h)⟩⟩) ext_nil (fun q h => (by cases h)) (enF c111_46_k) (fun _ h => (by cases h))

noncomputable def zh371 : AH := [zc131, zc15, qrC 4 [some 3, some 8], zc16, qkC 100 0, qkC 100 1, qkC 100 2, qkC 100 3, zc17, qkC 100 4, qkC 100 5, qkC 100 6, qkC 100 7, zc18, qkC 100 8, qkC 100 9, qkC 100 10, qkC 100 11, qkC 100 12, qkC 100 13, qkC 100 14, zc19, qkC 100 15, qkC 100 16, qkC 100 17, qkC 100 18, qkC 100 19, qkC 100 20, zc20, qkC 102 21, qkC 100 22, qjC 1 1000000060, zc21, qkC 100 23, qkC 100 24, qkC 100 25, qkC 100 26, qkC 100 27, qkC 100 28, qkC 100 29, qkC 100 30, zc130, qjC 1 1000000006, qjC 1 1000000004, zc241, zc162, zc163, qiC 0 [qgN 12 0 0], zc164, qiC 0 [qgN 12 0 0], zc165, qkC 100 33, zc132, qkC 100 34, zc166, qkC 100 35, qkC 100 36, qkC 100 37, qkC 100 38, qkC 100 39, zc326, zc168, zc169, qiC 0 [qgN 12 0 0], zc170, zc317, zc171, qkC 100 42, zc133, qkC 100 43, zc172, qkC 100 44, qkC 100 45, qkC 100 46, qkC 100 47, qkC 100 48, qkC 100 49, qkC 100 50]
noncomputable def c110_46 : Ct := (110, 3, (51, [qtA 31, qtN 32 0 1001, qtA 40, qtN 41 0 1001], [], [qvR 0], zh371, []),
  [((51, [], [], [qvK (.ofNat 3)], zh371, []), 0, 0)])
noncomputable def c110_46_e : List Ct := [c111_46]
noncomputable def c110_46_pts : List PE := []
set_option maxRecDepth 100000 in
theorem c110_46_k : enCtF c110_46 c110_46_e (pkP (c110_46_pts ++ []) []) (none) noH 3000 = true := by decide +kernel
set_option maxRecDepth 100000 in
theorem c110_46_v : ValidC PPk c110_46 := ct_ok fpk noH_ok (d := 2) (ext := []) (pts := c110_46_pts) (env := c110_46_e) rfl (List.forall_mem_cons.mpr ⟨⟨c111_46_v, Nat.le_of_ble_eq_true rfl⟩, fun _ h => (by cases h)⟩) ext_nil (fun q h => (by cases h)) (enF c110_46_k) (fun _ h => (by cases h))

noncomputable def zh372 : AH := [zc98, zc31, zc32, qiC 0 [qgN 12 0 0], zc33, qiC 0 [qgN 12 0 0], zc34, qkC 100 2, zc14, qkC 100 3, zc35, qkC 100 4, qkC 100 5, qkC 100 6, qkC 100 7, qkC 100 8, zc324, zc156, zc157, qiC 0 [qgN 12 0 0], zc158, zc231, zc159, qkC 100 12, zc160, qkC 100 13, zc161, qkC 100 14, qkC 100 15, qkC 100 16, qkC 100 17, qkC 100 18]
noncomputable def c111_47 : Ct := (111, 2, (19, [qtA 0, qtN 1 0 1001, qtA 9, qtN 10 0 1001, qtN 11 1 1073741824], [], [qvR 0, qvR 16], zh372, []),
  [((19, [], [], [qvK (.ofNat 0)], zh372, []), 0, 0)])
noncomputable def c111_47_e : List Ct := [c112_23, c112_24]
noncomputable def c111_47_pts : List PE := []
set_option maxRecDepth 100000 in
theorem c111_47_k : enCtF c111_47 c111_47_e (pkP (c111_47_pts ++ []) []) (none) noH 9000 = true := by decide +kernel
set_option maxRecDepth 100000 in
theorem c111_47_v : ValidC PPk c111_47 := ct_ok fpk noH_ok (d := 1) (ext := []) (pts := c111_47_pts) (env := c111_47_e) rfl (List.forall_mem_cons.mpr ⟨⟨c112_23_v, Nat.le_of_ble_eq_true rfl⟩, List.forall_mem_cons.mpr ⟨⟨c112_24_v, Nat.le_of_ble_eq_true rfl⟩, fun _ h => (by cases h)⟩⟩) ext_nil (fun q h => (by cases h)) (enF c111_47_k) (fun _ h => (by cases h))

noncomputable def zh373 : AH := [zc131, zc15, qrC 4 [some 3, some 8], zc16, qkC 100 0, qkC 100 1, qkC 100 2, qkC 100 3, zc17, qkC 100 4, qkC 100 5, qkC 100 6, qkC 100 7, zc18, qkC 100 8, qkC 100 9, qkC 100 10, qkC 100 11, qkC 100 12, qkC 100 13, qkC 100 14, zc19, qkC 100 15, qkC 100 16, qkC 100 17, qkC 100 18, qkC 100 19, qkC 100 20, zc20, qkC 102 21, qkC 100 22, qjC 1 1000000060, zc21, qkC 100 23, qkC 100 24, qkC 100 25, qkC 100 26, qkC 100 27, qkC 100 28, qkC 100 29, qkC 100 30, zc130, qjC 1 1000000006, qjC 1 1000000004, zc241, zc162, zc163, qiC 0 [qgN 12 0 0], zc164, qiC 0 [qgN 12 0 0], zc165, qkC 100 33, zc132, qkC 100 34, zc166, qkC 100 35, qkC 100 36, qkC 100 37, qkC 100 38, qkC 100 39, zc326, zc168, zc169, qiC 0 [qgN 12 0 0], zc170, qiC 0 [qgN 9 0 0, qgS 42, qgN 2 0 0], zc171, qkC 100 43, zc133, qkC 100 44, zc172, qkC 100 45, qkC 100 46, qkC 100 47, qkC 100 48, qkC 100 49, qkC 100 50, qkC 100 51]
noncomputable def c110_47 : Ct := (110, 3, (52, [qtA 31, qtN 32 0 1001, qtA 40, qtN 41 0 1001, qtN 42 1 1073741824], [], [qvR 0], zh373, []),
  [((52, [], [], [qvK (.ofNat 3)], zh373, []), 0, 0)])
noncomputable def c110_47_e : List Ct := [c111_47]
noncomputable def c110_47_pts : List PE := []
set_option maxRecDepth 100000 in
theorem c110_47_k : enCtF c110_47 c110_47_e (pkP (c110_47_pts ++ []) []) (none) noH 3000 = true := by decide +kernel
set_option maxRecDepth 100000 in
theorem c110_47_v : ValidC PPk c110_47 := ct_ok fpk noH_ok (d := 2) (ext := []) (pts := c110_47_pts) (env := c110_47_e) rfl (List.forall_mem_cons.mpr ⟨⟨c111_47_v, Nat.le_of_ble_eq_true rfl⟩, fun _ h => (by cases h)⟩) ext_nil (fun q h => (by cases h)) (enF c110_47_k) (fun _ h => (by cases h))

noncomputable def zc374 : AC := qoC 7 [qvR 17, qvK (.ofNat 7), qvR 26, qvR 30, qvR 31, qvK (.ofNat 0), qvK (.ofNat 0), qvK (.ofNat 0), qvS 8, qvK (.ofNat 0), qvK (.ofNat 0), qvS 9, qvK (.ofNat 0), qvK (.ofNat 0), qvK (.ofNat 0), qvK (.ofNat 0), qvK (.negSucc 0)]
noncomputable def zh375 : AH := [zc98, zc31, zc32, qiC 0 [qgN 12 0 0], zc33, qiC 0 [qgN 12 0 0], zc34, qiC 0 [qgN 12 0 0], zc14, qkC 100 2, zc35, qkC 100 3, qkC 100 4, qkC 100 5, qkC 100 6, qkC 100 7, zc374, zc156, zc157, qiC 0 [qgN 12 0 0], zc158, qiC 0 [qgN 12 0 0], zc159, zc237, zc160, qkC 100 10, zc161, qkC 100 11, qkC 100 12, qkC 100 13, qkC 100 14, qkC 100 15]
noncomputable def c111_48 : Ct := (111, 2, (16, [qtA 0, qtN 1 0 1001, qtA 8, qtN 9 0 1001], [], [qvR 0, qvR 16], zh375, []),
  [((16, [], [], [qvK (.ofNat 0)], zh375, []), 0, 0)])
noncomputable def c111_48_e : List Ct := [c112_0, c112_24]
noncomputable def c111_48_pts : List PE := []
set_option maxRecDepth 100000 in
theorem c111_48_k : enCtF c111_48 c111_48_e (pkP (c111_48_pts ++ []) []) (none) noH 9000 = true := by decide +kernel
set_option maxRecDepth 100000 in
theorem c111_48_v : ValidC PPk c111_48 := ct_ok fpk noH_ok (d := 1) (ext := []) (pts := c111_48_pts) (env := c111_48_e) rfl (List.forall_mem_cons.mpr ⟨⟨c112_0_v, Nat.le_of_ble_eq_true rfl⟩, List.forall_mem_cons.mpr ⟨⟨c112_24_v, Nat.le_of_ble_eq_true rfl⟩, fun _ h => (by cases h)⟩⟩) ext_nil (fun q h => (by cases h)) (enF c111_48_k) (fun _ h => (by cases h))

noncomputable def zc376 : AC := qoC 7 [qvR 61, qvK (.ofNat 7), qvR 70, qvR 74, qvR 75, qvK (.ofNat 0), qvK (.ofNat 0), qvK (.ofNat 0), qvS 39, qvK (.ofNat 0), qvK (.ofNat 0), qvS 40, qvK (.ofNat 0), qvK (.ofNat 0), qvK (.ofNat 0), qvK (.ofNat 0), qvK (.negSucc 0)]
noncomputable def zh377 : AH := [zc131, zc15, qrC 4 [some 3, some 8], zc16, qkC 100 0, qkC 100 1, qkC 100 2, qkC 100 3, zc17, qkC 100 4, qkC 100 5, qkC 100 6, qkC 100 7, zc18, qkC 100 8, qkC 100 9, qkC 100 10, qkC 100 11, qkC 100 12, qkC 100 13, qkC 100 14, zc19, qkC 100 15, qkC 100 16, qkC 100 17, qkC 100 18, qkC 100 19, qkC 100 20, zc20, qkC 102 21, qkC 100 22, qjC 1 1000000060, zc21, qkC 100 23, qkC 100 24, qkC 100 25, qkC 100 26, qkC 100 27, qkC 100 28, qkC 100 29, qkC 100 30, zc130, qjC 1 1000000006, qjC 1 1000000004, zc241, zc162, zc163, qiC 0 [qgN 12 0 0], zc164, qiC 0 [qgN 12 0 0], zc165, qiC 0 [qgN 12 0 0], zc132, qkC 100 33, zc166, qkC 100 34, qkC 100 35, qkC 100 36, qkC 100 37, qkC 100 38, zc376, zc168, zc169, qiC 0 [qgN 12 0 0], zc170, qiC 0 [qgN 12 0 0], zc171, zc237, zc133, qkC 100 41, zc172, qkC 100 42, qkC 100 43, qkC 100 44, qkC 100 45, qkC 100 46, qkC 100 47, qkC 100 48]
noncomputable def c110_48 : Ct := (110, 3, (49, [qtA 31, qtN 32 0 1001, qtA 39, qtN 40 0 1001], [], [qvR 0], zh377, []),
  [((49, [], [], [qvK (.ofNat 3)], zh377, []), 0, 0)])
noncomputable def c110_48_e : List Ct := [c111_48]
noncomputable def c110_48_pts : List PE := []
set_option maxRecDepth 100000 in
theorem c110_48_k : enCtF c110_48 c110_48_e (pkP (c110_48_pts ++ []) []) (none) noH 3000 = true := by decide +kernel
set_option maxRecDepth 100000 in
theorem c110_48_v : ValidC PPk c110_48 := ct_ok fpk noH_ok (d := 2) (ext := []) (pts := c110_48_pts) (env := c110_48_e) rfl (List.forall_mem_cons.mpr ⟨⟨c111_48_v, Nat.le_of_ble_eq_true rfl⟩, fun _ h => (by cases h)⟩) ext_nil (fun q h => (by cases h)) (enF c110_48_k) (fun _ h => (by cases h))

noncomputable def zh378 : AH := [zc98, zc31, zc32, qiC 0 [qgN 12 0 0], zc33, qiC 0 [qgN 12 0 0], zc34, qiC 0 [qgN 12 0 0], zc14, qkC 100 2, zc35, qkC 100 3, qkC 100 4, qkC 100 5, qkC 100 6, qkC 100 7, zc374, zc156, zc157, qiC 0 [qgN 12 0 0], zc158, qiC 0 [qgN 12 0 0], zc159, qiC 0 [qgS 10, qgN 11 0 0], zc160, qkC 100 11, zc161, qkC 100 12, qkC 100 13, qkC 100 14, qkC 100 15, qkC 100 16]
noncomputable def c111_49 : Ct := (111, 2, (17, [qtA 0, qtN 1 0 1001, qtA 8, qtN 9 0 1001, qtN 10 1 1073741824], [], [qvR 0, qvR 16], zh378, []),
  [((17, [], [], [qvK (.ofNat 0)], zh378, []), 0, 0)])
noncomputable def c111_49_e : List Ct := [c112_1, c112_24]
noncomputable def c111_49_pts : List PE := []
set_option maxRecDepth 100000 in
theorem c111_49_k : enCtF c111_49 c111_49_e (pkP (c111_49_pts ++ []) []) (none) noH 9000 = true := by decide +kernel
set_option maxRecDepth 100000 in
theorem c111_49_v : ValidC PPk c111_49 := ct_ok fpk noH_ok (d := 1) (ext := []) (pts := c111_49_pts) (env := c111_49_e) rfl (List.forall_mem_cons.mpr ⟨⟨c112_1_v, Nat.le_of_ble_eq_true rfl⟩, List.forall_mem_cons.mpr ⟨⟨c112_24_v, Nat.le_of_ble_eq_true rfl⟩, fun _ h => (by cases h)⟩⟩) ext_nil (fun q h => (by cases h)) (enF c111_49_k) (fun _ h => (by cases h))

noncomputable def zh379 : AH := [zc131, zc15, qrC 4 [some 3, some 8], zc16, qkC 100 0, qkC 100 1, qkC 100 2, qkC 100 3, zc17, qkC 100 4, qkC 100 5, qkC 100 6, qkC 100 7, zc18, qkC 100 8, qkC 100 9, qkC 100 10, qkC 100 11, qkC 100 12, qkC 100 13, qkC 100 14, zc19, qkC 100 15, qkC 100 16, qkC 100 17, qkC 100 18, qkC 100 19, qkC 100 20, zc20, qkC 102 21, qkC 100 22, qjC 1 1000000060, zc21, qkC 100 23, qkC 100 24, qkC 100 25, qkC 100 26, qkC 100 27, qkC 100 28, qkC 100 29, qkC 100 30, zc130, qjC 1 1000000006, qjC 1 1000000004, zc241, zc162, zc163, qiC 0 [qgN 12 0 0], zc164, qiC 0 [qgN 12 0 0], zc165, qiC 0 [qgN 12 0 0], zc132, qkC 100 33, zc166, qkC 100 34, qkC 100 35, qkC 100 36, qkC 100 37, qkC 100 38, zc376, zc168, zc169, qiC 0 [qgN 12 0 0], zc170, qiC 0 [qgN 12 0 0], zc171, qiC 0 [qgS 41, qgN 11 0 0], zc133, qkC 100 42, zc172, qkC 100 43, qkC 100 44, qkC 100 45, qkC 100 46, qkC 100 47, qkC 100 48, qkC 100 49]
noncomputable def c110_49 : Ct := (110, 3, (50, [qtA 31, qtN 32 0 1001, qtA 39, qtN 40 0 1001, qtN 41 1 1073741824], [], [qvR 0], zh379, []),
  [((50, [], [], [qvK (.ofNat 3)], zh379, []), 0, 0)])
noncomputable def c110_49_e : List Ct := [c111_49]
noncomputable def c110_49_pts : List PE := []
set_option maxRecDepth 100000 in
theorem c110_49_k : enCtF c110_49 c110_49_e (pkP (c110_49_pts ++ []) []) (none) noH 3000 = true := by decide +kernel
set_option maxRecDepth 100000 in
theorem c110_49_v : ValidC PPk c110_49 := ct_ok fpk noH_ok (d := 2) (ext := []) (pts := c110_49_pts) (env := c110_49_e) rfl (List.forall_mem_cons.mpr ⟨⟨c111_49_v, Nat.le_of_ble_eq_true rfl⟩, fun _ h => (by cases h)⟩) ext_nil (fun q h => (by cases h)) (enF c110_49_k) (fun _ h => (by cases h))

noncomputable def zh380 : AH := [zc98, zc31, zc32, qiC 0 [qgN 12 0 0], zc33, qiC 0 [qgN 12 0 0], zc34, qiC 0 [qgN 12 0 0], zc14, qkC 100 2, zc35, qkC 100 3, qkC 100 4, qkC 100 5, qkC 100 6, qkC 100 7, zc374, zc156, zc157, qiC 0 [qgN 12 0 0], zc158, qiC 0 [qgN 12 0 0], zc159, zc247, zc160, qkC 100 10, zc161, qkC 100 11, qkC 100 12, qkC 100 13, qkC 100 14, qkC 100 15]
noncomputable def c111_50 : Ct := (111, 2, (16, [qtA 0, qtN 1 0 1001, qtA 8, qtN 9 0 1001], [], [qvR 0, qvR 16], zh380, []),
  [((16, [], [], [qvK (.ofNat 0)], zh380, []), 0, 0)])
noncomputable def c111_50_e : List Ct := [c112_2, c112_24]
noncomputable def c111_50_pts : List PE := []
set_option maxRecDepth 100000 in
theorem c111_50_k : enCtF c111_50 c111_50_e (pkP (c111_50_pts ++ []) []) (none) noH 9000 = true := by decide +kernel
set_option maxRecDepth 100000 in
theorem c111_50_v : ValidC PPk c111_50 := ct_ok fpk noH_ok (d := 1) (ext := []) (pts := c111_50_pts) (env := c111_50_e) rfl (List.forall_mem_cons.mpr ⟨⟨c112_2_v, Nat.le_of_ble_eq_true rfl⟩, List.forall_mem_cons.mpr ⟨⟨c112_24_v, Nat.le_of_ble_eq_true rfl⟩, fun _ h => (by cases h)⟩⟩) ext_nil (fun q h => (by cases h)) (enF c111_50_k) (fun _ h => (by cases h))

noncomputable def zh381 : AH := [zc131, zc15, qrC 4 [some 3, some 8], zc16, qkC 100 0, qkC 100 1, qkC 100 2, qkC 100 3, zc17, qkC 100 4, qkC 100 5, qkC 100 6, qkC 100 7, zc18, qkC 100 8, qkC 100 9, qkC 100 10, qkC 100 11, qkC 100 12, qkC 100 13, qkC 100 14, zc19, qkC 100 15, qkC 100 16, qkC 100 17, qkC 100 18, qkC 100 19, qkC 100 20, zc20, qkC 102 21, qkC 100 22, qjC 1 1000000060, zc21, qkC 100 23, qkC 100 24, qkC 100 25, qkC 100 26, qkC 100 27, qkC 100 28, qkC 100 29, qkC 100 30, zc130, qjC 1 1000000006, qjC 1 1000000004, zc241, zc162, zc163, qiC 0 [qgN 12 0 0], zc164, qiC 0 [qgN 12 0 0], zc165, qiC 0 [qgN 12 0 0], zc132, qkC 100 33, zc166, qkC 100 34, qkC 100 35, qkC 100 36, qkC 100 37, qkC 100 38, zc376, zc168, zc169, qiC 0 [qgN 12 0 0], zc170, qiC 0 [qgN 12 0 0], zc171, zc247, zc133, qkC 100 41, zc172, qkC 100 42, qkC 100 43, qkC 100 44, qkC 100 45, qkC 100 46, qkC 100 47, qkC 100 48]
noncomputable def c110_50 : Ct := (110, 3, (49, [qtA 31, qtN 32 0 1001, qtA 39, qtN 40 0 1001], [], [qvR 0], zh381, []),
  [((49, [], [], [qvK (.ofNat 3)], zh381, []), 0, 0)])
noncomputable def c110_50_e : List Ct := [c111_50]
noncomputable def c110_50_pts : List PE := []
set_option maxRecDepth 100000 in
theorem c110_50_k : enCtF c110_50 c110_50_e (pkP (c110_50_pts ++ []) []) (none) noH 3000 = true := by decide +kernel
set_option maxRecDepth 100000 in
theorem c110_50_v : ValidC PPk c110_50 := ct_ok fpk noH_ok (d := 2) (ext := []) (pts := c110_50_pts) (env := c110_50_e) rfl (List.forall_mem_cons.mpr ⟨⟨c111_50_v, Nat.le_of_ble_eq_true rfl⟩, fun _ h => (by cases h)⟩) ext_nil (fun q h => (by cases h)) (enF c110_50_k) (fun _ h => (by cases h))

noncomputable def zh382 : AH := [zc98, zc31, zc32, qiC 0 [qgN 12 0 0], zc33, qiC 0 [qgN 12 0 0], zc34, qiC 0 [qgN 12 0 0], zc14, qkC 100 2, zc35, qkC 100 3, qkC 100 4, qkC 100 5, qkC 100 6, qkC 100 7, zc374, zc156, zc157, qiC 0 [qgN 12 0 0], zc158, qiC 0 [qgN 12 0 0], zc159, qiC 0 [qgN 1 0 0, qgS 10, qgN 10 0 0], zc160, qkC 100 11, zc161, qkC 100 12, qkC 100 13, qkC 100 14, qkC 100 15, qkC 100 16]
noncomputable def c111_51 : Ct := (111, 2, (17, [qtA 0, qtN 1 0 1001, qtA 8, qtN 9 0 1001, qtN 10 1 1073741824], [], [qvR 0, qvR 16], zh382, []),
  [((17, [], [], [qvK (.ofNat 0)], zh382, []), 0, 0)])
noncomputable def c111_51_e : List Ct := [c112_24, c112_3]
noncomputable def c111_51_pts : List PE := []
set_option maxRecDepth 100000 in
theorem c111_51_k : enCtF c111_51 c111_51_e (pkP (c111_51_pts ++ []) []) (none) noH 9000 = true := by decide +kernel
set_option maxRecDepth 100000 in
theorem c111_51_v : ValidC PPk c111_51 := ct_ok fpk noH_ok (d := 1) (ext := []) (pts := c111_51_pts) (env := c111_51_e) rfl (List.forall_mem_cons.mpr ⟨⟨c112_24_v, Nat.le_of_ble_eq_true rfl⟩, List.forall_mem_cons.mpr ⟨⟨c112_3_v, Nat.le_of_ble_eq_true rfl⟩, fun _ h => (by cases h)⟩⟩) ext_nil (fun q h => (by cases h)) (enF c111_51_k) (fun _ h => (by cases h))

noncomputable def zh383 : AH := [zc131, zc15, qrC 4 [some 3, some 8], zc16, qkC 100 0, qkC 100 1, qkC 100 2, qkC 100 3, zc17, qkC 100 4, qkC 100 5, qkC 100 6, qkC 100 7, zc18, qkC 100 8, qkC 100 9, qkC 100 10, qkC 100 11, qkC 100 12, qkC 100 13, qkC 100 14, zc19, qkC 100 15, qkC 100 16, qkC 100 17, qkC 100 18, qkC 100 19, qkC 100 20, zc20, qkC 102 21, qkC 100 22, qjC 1 1000000060, zc21, qkC 100 23, qkC 100 24, qkC 100 25, qkC 100 26, qkC 100 27, qkC 100 28, qkC 100 29, qkC 100 30, zc130, qjC 1 1000000006, qjC 1 1000000004, zc241, zc162, zc163, qiC 0 [qgN 12 0 0], zc164, qiC 0 [qgN 12 0 0], zc165, qiC 0 [qgN 12 0 0], zc132, qkC 100 33, zc166, qkC 100 34, qkC 100 35, qkC 100 36, qkC 100 37, qkC 100 38, zc376, zc168, zc169, qiC 0 [qgN 12 0 0], zc170, qiC 0 [qgN 12 0 0], zc171, qiC 0 [qgN 1 0 0, qgS 41, qgN 10 0 0], zc133, qkC 100 42, zc172, qkC 100 43, qkC 100 44, qkC 100 45, qkC 100 46, qkC 100 47, qkC 100 48, qkC 100 49]
noncomputable def c110_51 : Ct := (110, 3, (50, [qtA 31, qtN 32 0 1001, qtA 39, qtN 40 0 1001, qtN 41 1 1073741824], [], [qvR 0], zh383, []),
  [((50, [], [], [qvK (.ofNat 3)], zh383, []), 0, 0)])
noncomputable def c110_51_e : List Ct := [c111_51]
noncomputable def c110_51_pts : List PE := []
set_option maxRecDepth 100000 in
theorem c110_51_k : enCtF c110_51 c110_51_e (pkP (c110_51_pts ++ []) []) (none) noH 3000 = true := by decide +kernel
set_option maxRecDepth 100000 in
theorem c110_51_v : ValidC PPk c110_51 := ct_ok fpk noH_ok (d := 2) (ext := []) (pts := c110_51_pts) (env := c110_51_e) rfl (List.forall_mem_cons.mpr ⟨⟨c111_51_v, Nat.le_of_ble_eq_true rfl⟩, fun _ h => (by cases h)⟩) ext_nil (fun q h => (by cases h)) (enF c110_51_k) (fun _ h => (by cases h))

noncomputable def zh384 : AH := [zc98, zc31, zc32, qiC 0 [qgN 12 0 0], zc33, qiC 0 [qgN 12 0 0], zc34, qiC 0 [qgN 12 0 0], zc14, qkC 100 2, zc35, qkC 100 3, qkC 100 4, qkC 100 5, qkC 100 6, qkC 100 7, zc374, zc156, zc157, qiC 0 [qgN 12 0 0], zc158, qiC 0 [qgN 12 0 0], zc159, zc254, zc160, qkC 100 10, zc161, qkC 100 11, qkC 100 12, qkC 100 13, qkC 100 14, qkC 100 15]
noncomputable def c111_52 : Ct := (111, 2, (16, [qtA 0, qtN 1 0 1001, qtA 8, qtN 9 0 1001], [], [qvR 0, qvR 16], zh384, []),
  [((16, [], [], [qvK (.ofNat 0)], zh384, []), 0, 0)])
noncomputable def c111_52_e : List Ct := [c112_24, c112_4]
noncomputable def c111_52_pts : List PE := []
set_option maxRecDepth 100000 in
theorem c111_52_k : enCtF c111_52 c111_52_e (pkP (c111_52_pts ++ []) []) (none) noH 9000 = true := by decide +kernel
set_option maxRecDepth 100000 in
theorem c111_52_v : ValidC PPk c111_52 := ct_ok fpk noH_ok (d := 1) (ext := []) (pts := c111_52_pts) (env := c111_52_e) rfl (List.forall_mem_cons.mpr ⟨⟨c112_24_v, Nat.le_of_ble_eq_true rfl⟩, List.forall_mem_cons.mpr ⟨⟨c112_4_v, Nat.le_of_ble_eq_true rfl⟩, fun _ h => (by cases h)⟩⟩) ext_nil (fun q h => (by cases h)) (enF c111_52_k) (fun _ h => (by cases h))

noncomputable def zh385 : AH := [zc131, zc15, qrC 4 [some 3, some 8], zc16, qkC 100 0, qkC 100 1, qkC 100 2, qkC 100 3, zc17, qkC 100 4, qkC 100 5, qkC 100 6, qkC 100 7, zc18, qkC 100 8, qkC 100 9, qkC 100 10, qkC 100 11, qkC 100 12, qkC 100 13, qkC 100 14, zc19, qkC 100 15, qkC 100 16, qkC 100 17, qkC 100 18, qkC 100 19, qkC 100 20, zc20, qkC 102 21, qkC 100 22, qjC 1 1000000060, zc21, qkC 100 23, qkC 100 24, qkC 100 25, qkC 100 26, qkC 100 27, qkC 100 28, qkC 100 29, qkC 100 30, zc130, qjC 1 1000000006, qjC 1 1000000004, zc241, zc162, zc163, qiC 0 [qgN 12 0 0], zc164, qiC 0 [qgN 12 0 0], zc165, qiC 0 [qgN 12 0 0], zc132, qkC 100 33, zc166, qkC 100 34, qkC 100 35, qkC 100 36, qkC 100 37, qkC 100 38, zc376, zc168, zc169, qiC 0 [qgN 12 0 0], zc170, qiC 0 [qgN 12 0 0], zc171, zc254, zc133, qkC 100 41, zc172, qkC 100 42, qkC 100 43, qkC 100 44, qkC 100 45, qkC 100 46, qkC 100 47, qkC 100 48]
noncomputable def c110_52 : Ct := (110, 3, (49, [qtA 31, qtN 32 0 1001, qtA 39, qtN 40 0 1001], [], [qvR 0], zh385, []),
  [((49, [], [], [qvK (.ofNat 3)], zh385, []), 0, 0)])
noncomputable def c110_52_e : List Ct := [c111_52]
noncomputable def c110_52_pts : List PE := []
set_option maxRecDepth 100000 in
theorem c110_52_k : enCtF c110_52 c110_52_e (pkP (c110_52_pts ++ []) []) (none) noH 3000 = true := by decide +kernel
set_option maxRecDepth 100000 in
theorem c110_52_v : ValidC PPk c110_52 := ct_ok fpk noH_ok (d := 2) (ext := []) (pts := c110_52_pts) (env := c110_52_e) rfl (List.forall_mem_cons.mpr ⟨⟨c111_52_v, Nat.le_of_ble_eq_true rfl⟩, fun _ h => (by cases h)⟩) ext_nil (fun q h => (by cases h)) (enF c110_52_k) (fun _ h => (by cases h))

noncomputable def zh386 : AH := [zc98, zc31, zc32, qiC 0 [qgN 12 0 0], zc33, qiC 0 [qgN 12 0 0], zc34, qiC 0 [qgN 12 0 0], zc14, qkC 100 2, zc35, qkC 100 3, qkC 100 4, qkC 100 5, qkC 100 6, qkC 100 7, zc374, zc156, zc157, qiC 0 [qgN 12 0 0], zc158, qiC 0 [qgN 12 0 0], zc159, qiC 0 [qgN 10 0 0, qgS 10, qgN 1 0 0], zc160, qkC 100 11, zc161, qkC 100 12, qkC 100 13, qkC 100 14, qkC 100 15, qkC 100 16]
noncomputable def c111_53 : Ct := (111, 2, (17, [qtA 0, qtN 1 0 1001, qtA 8, qtN 9 0 1001, qtN 10 1 1073741824], [], [qvR 0, qvR 16], zh386, []),
  [((17, [], [], [qvK (.ofNat 0)], zh386, []), 0, 0)])
noncomputable def c111_53_e : List Ct := [c112_24, c112_5]
noncomputable def c111_53_pts : List PE := []
set_option maxRecDepth 100000 in
theorem c111_53_k : enCtF c111_53 c111_53_e (pkP (c111_53_pts ++ []) []) (none) noH 9000 = true := by decide +kernel
set_option maxRecDepth 100000 in
theorem c111_53_v : ValidC PPk c111_53 := ct_ok fpk noH_ok (d := 1) (ext := []) (pts := c111_53_pts) (env := c111_53_e) rfl (List.forall_mem_cons.mpr ⟨⟨c112_24_v, Nat.le_of_ble_eq_true rfl⟩, List.forall_mem_cons.mpr ⟨⟨c112_5_v, Nat.le_of_ble_eq_true rfl⟩, fun _ h => (by cases h)⟩⟩) ext_nil (fun q h => (by cases h)) (enF c111_53_k) (fun _ h => (by cases h))

noncomputable def zh387 : AH := [zc131, zc15, qrC 4 [some 3, some 8], zc16, qkC 100 0, qkC 100 1, qkC 100 2, qkC 100 3, zc17, qkC 100 4, qkC 100 5, qkC 100 6, qkC 100 7, zc18, qkC 100 8, qkC 100 9, qkC 100 10, qkC 100 11, qkC 100 12, qkC 100 13, qkC 100 14, zc19, qkC 100 15, qkC 100 16, qkC 100 17, qkC 100 18, qkC 100 19, qkC 100 20, zc20, qkC 102 21, qkC 100 22, qjC 1 1000000060, zc21, qkC 100 23, qkC 100 24, qkC 100 25, qkC 100 26, qkC 100 27, qkC 100 28, qkC 100 29, qkC 100 30, zc130, qjC 1 1000000006, qjC 1 1000000004, zc241, zc162, zc163, qiC 0 [qgN 12 0 0], zc164, qiC 0 [qgN 12 0 0], zc165, qiC 0 [qgN 12 0 0], zc132, qkC 100 33, zc166, qkC 100 34, qkC 100 35, qkC 100 36, qkC 100 37, qkC 100 38, zc376, zc168, zc169, qiC 0 [qgN 12 0 0], zc170, qiC 0 [qgN 12 0 0], zc171, qiC 0 [qgN 10 0 0, qgS 41, qgN 1 0 0], zc133, qkC 100 42, zc172, qkC 100 43, qkC 100 44, qkC 100 45, qkC 100 46, qkC 100 47, qkC 100 48, qkC 100 49]
noncomputable def c110_53 : Ct := (110, 3, (50, [qtA 31, qtN 32 0 1001, qtA 39, qtN 40 0 1001, qtN 41 1 1073741824], [], [qvR 0], zh387, []),
  [((50, [], [], [qvK (.ofNat 3)], zh387, []), 0, 0)])
noncomputable def c110_53_e : List Ct := [c111_53]
noncomputable def c110_53_pts : List PE := []
set_option maxRecDepth 100000 in
theorem c110_53_k : enCtF c110_53 c110_53_e (pkP (c110_53_pts ++ []) []) (none) noH 3000 = true := by decide +kernel
set_option maxRecDepth 100000 in
theorem c110_53_v : ValidC PPk c110_53 := ct_ok fpk noH_ok (d := 2) (ext := []) (pts := c110_53_pts) (env := c110_53_e) rfl (List.forall_mem_cons.mpr ⟨⟨c111_53_v, Nat.le_of_ble_eq_true rfl⟩, fun _ h => (by cases h)⟩) ext_nil (fun q h => (by cases h)) (enF c110_53_k) (fun _ h => (by cases h))

noncomputable def zh388 : AH := [zc98, zc31, zc32, qiC 0 [qgN 12 0 0], zc33, qiC 0 [qgN 12 0 0], zc34, qiC 0 [qgN 12 0 0], zc14, qkC 100 2, zc35, qkC 100 3, qkC 100 4, qkC 100 5, qkC 100 6, qkC 100 7, zc374, zc156, zc157, qiC 0 [qgN 12 0 0], zc158, qiC 0 [qgN 12 0 0], zc159, zc261, zc160, qkC 100 10, zc161, qkC 100 11, qkC 100 12, qkC 100 13, qkC 100 14, qkC 100 15]
noncomputable def c111_54 : Ct := (111, 2, (16, [qtA 0, qtN 1 0 1001, qtA 8, qtN 9 0 1001], [], [qvR 0, qvR 16], zh388, []),
  [((16, [], [], [qvK (.ofNat 0)], zh388, []), 0, 0)])
noncomputable def c111_54_e : List Ct := [c112_24, c112_6]
noncomputable def c111_54_pts : List PE := []
set_option maxRecDepth 100000 in
theorem c111_54_k : enCtF c111_54 c111_54_e (pkP (c111_54_pts ++ []) []) (none) noH 9000 = true := by decide +kernel
set_option maxRecDepth 100000 in
theorem c111_54_v : ValidC PPk c111_54 := ct_ok fpk noH_ok (d := 1) (ext := []) (pts := c111_54_pts) (env := c111_54_e) rfl (List.forall_mem_cons.mpr ⟨⟨c112_24_v, Nat.le_of_ble_eq_true rfl⟩, List.forall_mem_cons.mpr ⟨⟨c112_6_v, Nat.le_of_ble_eq_true rfl⟩, fun _ h => (by cases h)⟩⟩) ext_nil (fun q h => (by cases h)) (enF c111_54_k) (fun _ h => (by cases h))

noncomputable def zh389 : AH := [zc131, zc15, qrC 4 [some 3, some 8], zc16, qkC 100 0, qkC 100 1, qkC 100 2, qkC 100 3, zc17, qkC 100 4, qkC 100 5, qkC 100 6, qkC 100 7, zc18, qkC 100 8, qkC 100 9, qkC 100 10, qkC 100 11, qkC 100 12, qkC 100 13, qkC 100 14, zc19, qkC 100 15, qkC 100 16, qkC 100 17, qkC 100 18, qkC 100 19, qkC 100 20, zc20, qkC 102 21, qkC 100 22, qjC 1 1000000060, zc21, qkC 100 23, qkC 100 24, qkC 100 25, qkC 100 26, qkC 100 27, qkC 100 28, qkC 100 29, qkC 100 30, zc130, qjC 1 1000000006, qjC 1 1000000004, zc241, zc162, zc163, qiC 0 [qgN 12 0 0], zc164, qiC 0 [qgN 12 0 0], zc165, qiC 0 [qgN 12 0 0], zc132, qkC 100 33, zc166, qkC 100 34, qkC 100 35, qkC 100 36, qkC 100 37, qkC 100 38, zc376, zc168, zc169, qiC 0 [qgN 12 0 0], zc170, qiC 0 [qgN 12 0 0], zc171, zc261, zc133, qkC 100 41, zc172, qkC 100 42, qkC 100 43, qkC 100 44, qkC 100 45, qkC 100 46, qkC 100 47, qkC 100 48]
noncomputable def c110_54 : Ct := (110, 3, (49, [qtA 31, qtN 32 0 1001, qtA 39, qtN 40 0 1001], [], [qvR 0], zh389, []),
  [((49, [], [], [qvK (.ofNat 3)], zh389, []), 0, 0)])
noncomputable def c110_54_e : List Ct := [c111_54]
noncomputable def c110_54_pts : List PE := []
set_option maxRecDepth 100000 in
theorem c110_54_k : enCtF c110_54 c110_54_e (pkP (c110_54_pts ++ []) []) (none) noH 3000 = true := by decide +kernel
set_option maxRecDepth 100000 in
theorem c110_54_v : ValidC PPk c110_54 := ct_ok fpk noH_ok (d := 2) (ext := []) (pts := c110_54_pts) (env := c110_54_e) rfl (List.forall_mem_cons.mpr ⟨⟨c111_54_v, Nat.le_of_ble_eq_true rfl⟩, fun _ h => (by cases h)⟩) ext_nil (fun q h => (by cases h)) (enF c110_54_k) (fun _ h => (by cases h))

noncomputable def zh390 : AH := [zc98, zc31, zc32, qiC 0 [qgN 12 0 0], zc33, qiC 0 [qgN 12 0 0], zc34, qiC 0 [qgN 12 0 0], zc14, qkC 100 2, zc35, qkC 100 3, qkC 100 4, qkC 100 5, qkC 100 6, qkC 100 7, zc374, zc156, zc157, qiC 0 [qgN 12 0 0], zc158, qiC 0 [qgN 12 0 0], zc159, qiC 0 [qgN 11 0 0, qgS 10], zc160, qkC 100 11, zc161, qkC 100 12, qkC 100 13, qkC 100 14, qkC 100 15, qkC 100 16]
noncomputable def c111_55 : Ct := (111, 2, (17, [qtA 0, qtN 1 0 1001, qtA 8, qtN 9 0 1001, qtN 10 1 1073741824], [], [qvR 0, qvR 16], zh390, []),
  [((17, [], [], [qvK (.ofNat 0)], zh390, []), 0, 0)])
noncomputable def c111_55_e : List Ct := [c112_24, c112_7]
noncomputable def c111_55_pts : List PE := []
set_option maxRecDepth 100000 in
theorem c111_55_k : enCtF c111_55 c111_55_e (pkP (c111_55_pts ++ []) []) (none) noH 9000 = true := by decide +kernel
set_option maxRecDepth 100000 in
theorem c111_55_v : ValidC PPk c111_55 := ct_ok fpk noH_ok (d := 1) (ext := []) (pts := c111_55_pts) (env := c111_55_e) rfl (List.forall_mem_cons.mpr ⟨⟨c112_24_v, Nat.le_of_ble_eq_true rfl⟩, List.forall_mem_cons.mpr ⟨⟨c112_7_v, Nat.le_of_ble_eq_true rfl⟩, fun _ h => (by cases h)⟩⟩) ext_nil (fun q h => (by cases h)) (enF c111_55_k) (fun _ h => (by cases h))

noncomputable def zh391 : AH := [zc131, zc15, qrC 4 [some 3, some 8], zc16, qkC 100 0, qkC 100 1, qkC 100 2, qkC 100 3, zc17, qkC 100 4, qkC 100 5, qkC 100 6, qkC 100 7, zc18, qkC 100 8, qkC 100 9, qkC 100 10, qkC 100 11, qkC 100 12, qkC 100 13, qkC 100 14, zc19, qkC 100 15, qkC 100 16, qkC 100 17, qkC 100 18, qkC 100 19, qkC 100 20, zc20, qkC 102 21, qkC 100 22, qjC 1 1000000060, zc21, qkC 100 23, qkC 100 24, qkC 100 25, qkC 100 26, qkC 100 27, qkC 100 28, qkC 100 29, qkC 100 30, zc130, qjC 1 1000000006, qjC 1 1000000004, zc241, zc162, zc163, qiC 0 [qgN 12 0 0], zc164, qiC 0 [qgN 12 0 0], zc165, qiC 0 [qgN 12 0 0], zc132, qkC 100 33, zc166, qkC 100 34, qkC 100 35, qkC 100 36, qkC 100 37, qkC 100 38, zc376, zc168, zc169, qiC 0 [qgN 12 0 0], zc170, qiC 0 [qgN 12 0 0], zc171, qiC 0 [qgN 11 0 0, qgS 41], zc133, qkC 100 42, zc172, qkC 100 43, qkC 100 44, qkC 100 45, qkC 100 46, qkC 100 47, qkC 100 48, qkC 100 49]
noncomputable def c110_55 : Ct := (110, 3, (50, [qtA 31, qtN 32 0 1001, qtA 39, qtN 40 0 1001, qtN 41 1 1073741824], [], [qvR 0], zh391, []),
  [((50, [], [], [qvK (.ofNat 3)], zh391, []), 0, 0)])
noncomputable def c110_55_e : List Ct := [c111_55]
noncomputable def c110_55_pts : List PE := []
set_option maxRecDepth 100000 in
theorem c110_55_k : enCtF c110_55 c110_55_e (pkP (c110_55_pts ++ []) []) (none) noH 3000 = true := by decide +kernel
set_option maxRecDepth 100000 in
theorem c110_55_v : ValidC PPk c110_55 := ct_ok fpk noH_ok (d := 2) (ext := []) (pts := c110_55_pts) (env := c110_55_e) rfl (List.forall_mem_cons.mpr ⟨⟨c111_55_v, Nat.le_of_ble_eq_true rfl⟩, fun _ h => (by cases h)⟩) ext_nil (fun q h => (by cases h)) (enF c110_55_k) (fun _ h => (by cases h))

noncomputable def zh392 : AH := [zc98, zc31, zc32, qiC 0 [qgN 12 0 0], zc33, qiC 0 [qgN 12 0 0], zc34, qiC 0 [qgN 12 0 0], zc14, qkC 100 2, zc35, qkC 100 3, qkC 100 4, qkC 100 5, qkC 100 6, qkC 100 7, zc374, zc156, zc157, qiC 0 [qgN 12 0 0], zc158, qiC 0 [qgN 12 0 0], zc159, zc268, zc160, qkC 100 10, zc161, qkC 100 11, qkC 100 12, qkC 100 13, qkC 100 14, qkC 100 15]
noncomputable def c111_56 : Ct := (111, 2, (16, [qtA 0, qtN 1 0 1001, qtA 8, qtN 9 0 1001], [], [qvR 0, qvR 16], zh392, []),
  [((16, [], [], [qvK (.ofNat 0)], zh392, []), 0, 0)])
noncomputable def c111_56_e : List Ct := [c112_24, c112_8]
noncomputable def c111_56_pts : List PE := []
set_option maxRecDepth 100000 in
theorem c111_56_k : enCtF c111_56 c111_56_e (pkP (c111_56_pts ++ []) []) (none) noH 9000 = true := by decide +kernel
set_option maxRecDepth 100000 in
theorem c111_56_v : ValidC PPk c111_56 := ct_ok fpk noH_ok (d := 1) (ext := []) (pts := c111_56_pts) (env := c111_56_e) rfl (List.forall_mem_cons.mpr ⟨⟨c112_24_v, Nat.le_of_ble_eq_true rfl⟩, List.forall_mem_cons.mpr ⟨⟨c112_8_v, Nat.le_of_ble_eq_true rfl⟩, fun _ h => (by cases h)⟩⟩) ext_nil (fun q h => (by cases h)) (enF c111_56_k) (fun _ h => (by cases h))

noncomputable def zh393 : AH := [zc131, zc15, qrC 4 [some 3, some 8], zc16, qkC 100 0, qkC 100 1, qkC 100 2, qkC 100 3, zc17, qkC 100 4, qkC 100 5, qkC 100 6, qkC 100 7, zc18, qkC 100 8, qkC 100 9, qkC 100 10, qkC 100 11, qkC 100 12, qkC 100 13, qkC 100 14, zc19, qkC 100 15, qkC 100 16, qkC 100 17, qkC 100 18, qkC 100 19, qkC 100 20, zc20, qkC 102 21, qkC 100 22, qjC 1 1000000060, zc21, qkC 100 23, qkC 100 24, qkC 100 25, qkC 100 26, qkC 100 27, qkC 100 28, qkC 100 29, qkC 100 30, zc130, qjC 1 1000000006, qjC 1 1000000004, zc241, zc162, zc163, qiC 0 [qgN 12 0 0], zc164, qiC 0 [qgN 12 0 0], zc165, qiC 0 [qgN 12 0 0], zc132, qkC 100 33, zc166, qkC 100 34, qkC 100 35, qkC 100 36, qkC 100 37, qkC 100 38, zc376, zc168, zc169, qiC 0 [qgN 12 0 0], zc170, qiC 0 [qgN 12 0 0], zc171, zc268, zc133, qkC 100 41, zc172, qkC 100 42, qkC 100 43, qkC 100 44, qkC 100 45, qkC 100 46, qkC 100 47, qkC 100 48]
noncomputable def c110_56 : Ct := (110, 3, (49, [qtA 31, qtN 32 0 1001, qtA 39, qtN 40 0 1001], [], [qvR 0], zh393, []),
  [((49, [], [], [qvK (.ofNat 3)], zh393, []), 0, 0)])
noncomputable def c110_56_e : List Ct := [c111_56]
noncomputable def c110_56_pts : List PE := []
set_option maxRecDepth 100000 in
theorem c110_56_k : enCtF c110_56 c110_56_e (pkP (c110_56_pts ++ []) []) (none) noH 3000 = true := by decide +kernel
set_option maxRecDepth 100000 in
theorem c110_56_v : ValidC PPk c110_56 := ct_ok fpk noH_ok (d := 2) (ext := []) (pts := c110_56_pts) (env := c110_56_e) rfl (List.forall_mem_cons.mpr ⟨⟨c111_56_v, Nat.le_of_ble_eq_true rfl⟩, fun _ h => (by cases h)⟩) ext_nil (fun q h => (by cases h)) (enF c110_56_k) (fun _ h => (by cases h))

noncomputable def zh394 : AH := [zc98, zc31, zc32, qiC 0 [qgN 12 0 0], zc33, qiC 0 [qgN 12 0 0], zc34, qiC 0 [qgN 12 0 0], zc14, qkC 100 2, zc35, qkC 100 3, qkC 100 4, qkC 100 5, qkC 100 6, qkC 100 7, zc374, zc156, zc157, qiC 0 [qgN 12 0 0], zc158, qiC 0 [qgN 12 0 0], zc159, qiC 0 [qgN 2 0 0, qgS 10, qgN 9 0 0], zc160, qkC 100 11, zc161, qkC 100 12, qkC 100 13, qkC 100 14, qkC 100 15, qkC 100 16]
noncomputable def c111_57 : Ct := (111, 2, (17, [qtA 0, qtN 1 0 1001, qtA 8, qtN 9 0 1001, qtN 10 1 1073741824], [], [qvR 0, qvR 16], zh394, []),
  [((17, [], [], [qvK (.ofNat 0)], zh394, []), 0, 0)])
noncomputable def c111_57_e : List Ct := [c112_24, c112_9]
noncomputable def c111_57_pts : List PE := []
set_option maxRecDepth 100000 in
theorem c111_57_k : enCtF c111_57 c111_57_e (pkP (c111_57_pts ++ []) []) (none) noH 9000 = true := by decide +kernel
set_option maxRecDepth 100000 in
theorem c111_57_v : ValidC PPk c111_57 := ct_ok fpk noH_ok (d := 1) (ext := []) (pts := c111_57_pts) (env := c111_57_e) rfl (List.forall_mem_cons.mpr ⟨⟨c112_24_v, Nat.le_of_ble_eq_true rfl⟩, List.forall_mem_cons.mpr ⟨⟨c112_9_v, Nat.le_of_ble_eq_true rfl⟩, fun _ h => (by cases h)⟩⟩) ext_nil (fun q h => (by cases h)) (enF c111_57_k) (fun _ h => (by cases h))

noncomputable def zh395 : AH := [zc131, zc15, qrC 4 [some 3, some 8], zc16, qkC 100 0, qkC 100 1, qkC 100 2, qkC 100 3, zc17, qkC 100 4, qkC 100 5, qkC 100 6, qkC 100 7, zc18, qkC 100 8, qkC 100 9, qkC 100 10, qkC 100 11, qkC 100 12, qkC 100 13, qkC 100 14, zc19, qkC 100 15, qkC 100 16, qkC 100 17, qkC 100 18, qkC 100 19, qkC 100 20, zc20, qkC 102 21, qkC 100 22, qjC 1 1000000060, zc21, qkC 100 23, qkC 100 24, qkC 100 25, qkC 100 26, qkC 100 27, qkC 100 28, qkC 100 29, qkC 100 30, zc130, qjC 1 1000000006, qjC 1 1000000004, zc241, zc162, zc163, qiC 0 [qgN 12 0 0], zc164, qiC 0 [qgN 12 0 0], zc165, qiC 0 [qgN 12 0 0], zc132, qkC 100 33, zc166, qkC 100 34, qkC 100 35, qkC 100 36, qkC 100 37, qkC 100 38, zc376, zc168, zc169, qiC 0 [qgN 12 0 0], zc170, qiC 0 [qgN 12 0 0], zc171, qiC 0 [qgN 2 0 0, qgS 41, qgN 9 0 0], zc133, qkC 100 42, zc172, qkC 100 43, qkC 100 44, qkC 100 45, qkC 100 46, qkC 100 47, qkC 100 48, qkC 100 49]
noncomputable def c110_57 : Ct := (110, 3, (50, [qtA 31, qtN 32 0 1001, qtA 39, qtN 40 0 1001, qtN 41 1 1073741824], [], [qvR 0], zh395, []),
  [((50, [], [], [qvK (.ofNat 3)], zh395, []), 0, 0)])
noncomputable def c110_57_e : List Ct := [c111_57]
noncomputable def c110_57_pts : List PE := []
set_option maxRecDepth 100000 in
theorem c110_57_k : enCtF c110_57 c110_57_e (pkP (c110_57_pts ++ []) []) (none) noH 3000 = true := by decide +kernel
set_option maxRecDepth 100000 in
theorem c110_57_v : ValidC PPk c110_57 := ct_ok fpk noH_ok (d := 2) (ext := []) (pts := c110_57_pts) (env := c110_57_e) rfl (List.forall_mem_cons.mpr ⟨⟨c111_57_v, Nat.le_of_ble_eq_true rfl⟩, fun _ h => (by cases h)⟩) ext_nil (fun q h => (by cases h)) (enF c110_57_k) (fun _ h => (by cases h))

noncomputable def zh396 : AH := [zc98, zc31, zc32, qiC 0 [qgN 12 0 0], zc33, qiC 0 [qgN 12 0 0], zc34, qiC 0 [qgN 12 0 0], zc14, qkC 100 2, zc35, qkC 100 3, qkC 100 4, qkC 100 5, qkC 100 6, qkC 100 7, zc374, zc156, zc157, qiC 0 [qgN 12 0 0], zc158, qiC 0 [qgN 12 0 0], zc159, zc275, zc160, qkC 100 10, zc161, qkC 100 11, qkC 100 12, qkC 100 13, qkC 100 14, qkC 100 15]
noncomputable def c111_58 : Ct := (111, 2, (16, [qtA 0, qtN 1 0 1001, qtA 8, qtN 9 0 1001], [], [qvR 0, qvR 16], zh396, []),
  [((16, [], [], [qvK (.ofNat 0)], zh396, []), 0, 0)])
noncomputable def c111_58_e : List Ct := [c112_10, c112_24]
noncomputable def c111_58_pts : List PE := []
set_option maxRecDepth 100000 in
theorem c111_58_k : enCtF c111_58 c111_58_e (pkP (c111_58_pts ++ []) []) (none) noH 9000 = true := by decide +kernel
set_option maxRecDepth 100000 in
theorem c111_58_v : ValidC PPk c111_58 := ct_ok fpk noH_ok (d := 1) (ext := []) (pts := c111_58_pts) (env := c111_58_e) rfl (List.forall_mem_cons.mpr ⟨⟨c112_10_v, Nat.le_of_ble_eq_true rfl⟩, List.forall_mem_cons.mpr ⟨⟨c112_24_v, Nat.le_of_ble_eq_true rfl⟩, fun _ h => (by cases h)⟩⟩) ext_nil (fun q h => (by cases h)) (enF c111_58_k) (fun _ h => (by cases h))

noncomputable def zh397 : AH := [zc131, zc15, qrC 4 [some 3, some 8], zc16, qkC 100 0, qkC 100 1, qkC 100 2, qkC 100 3, zc17, qkC 100 4, qkC 100 5, qkC 100 6, qkC 100 7, zc18, qkC 100 8, qkC 100 9, qkC 100 10, qkC 100 11, qkC 100 12, qkC 100 13, qkC 100 14, zc19, qkC 100 15, qkC 100 16, qkC 100 17, qkC 100 18, qkC 100 19, qkC 100 20, zc20, qkC 102 21, qkC 100 22, qjC 1 1000000060, zc21, qkC 100 23, qkC 100 24, qkC 100 25, qkC 100 26, qkC 100 27, qkC 100 28, qkC 100 29, qkC 100 30, zc130, qjC 1 1000000006, qjC 1 1000000004, zc241, zc162, zc163, qiC 0 [qgN 12 0 0], zc164, qiC 0 [qgN 12 0 0], zc165, qiC 0 [qgN 12 0 0], zc132, qkC 100 33, zc166, qkC 100 34, qkC 100 35, qkC 100 36, qkC 100 37, qkC 100 38, zc376, zc168, zc169, qiC 0 [qgN 12 0 0], zc170, qiC 0 [qgN 12 0 0], zc171, zc275, zc133, qkC 100 41, zc172, qkC 100 42, qkC 100 43, qkC 100 44, qkC 100 45, qkC 100 46, qkC 100 47, qkC 100 48]
noncomputable def c110_58 : Ct := (110, 3, (49, [qtA 31, qtN 32 0 1001, qtA 39, qtN 40 0 1001], [], [qvR 0], zh397, []),
  [((49, [], [], [qvK (.ofNat 3)], zh397, []), 0, 0)])
noncomputable def c110_58_e : List Ct := [c111_58]
noncomputable def c110_58_pts : List PE := []
set_option maxRecDepth 100000 in
theorem c110_58_k : enCtF c110_58 c110_58_e (pkP (c110_58_pts ++ []) []) (none) noH 3000 = true := by decide +kernel
set_option maxRecDepth 100000 in
theorem c110_58_v : ValidC PPk c110_58 := ct_ok fpk noH_ok (d := 2) (ext := []) (pts := c110_58_pts) (env := c110_58_e) rfl (List.forall_mem_cons.mpr ⟨⟨c111_58_v, Nat.le_of_ble_eq_true rfl⟩, fun _ h => (by cases h)⟩) ext_nil (fun q h => (by cases h)) (enF c110_58_k) (fun _ h => (by cases h))

noncomputable def zh398 : AH := [zc98, zc31, zc32, qiC 0 [qgN 12 0 0], zc33, qiC 0 [qgN 12 0 0], zc34, qiC 0 [qgN 12 0 0], zc14, qkC 100 2, zc35, qkC 100 3, qkC 100 4, qkC 100 5, qkC 100 6, qkC 100 7, zc374, zc156, zc157, qiC 0 [qgN 12 0 0], zc158, qiC 0 [qgN 12 0 0], zc159, qiC 0 [qgN 3 0 0, qgS 10, qgN 8 0 0], zc160, qkC 100 11, zc161, qkC 100 12, qkC 100 13, qkC 100 14, qkC 100 15, qkC 100 16]
noncomputable def c111_59 : Ct := (111, 2, (17, [qtA 0, qtN 1 0 1001, qtA 8, qtN 9 0 1001, qtN 10 1 1073741824], [], [qvR 0, qvR 16], zh398, []),
  [((17, [], [], [qvK (.ofNat 0)], zh398, []), 0, 0)])
noncomputable def c111_59_e : List Ct := [c112_11, c112_24]
noncomputable def c111_59_pts : List PE := []
set_option maxRecDepth 100000 in
theorem c111_59_k : enCtF c111_59 c111_59_e (pkP (c111_59_pts ++ []) []) (none) noH 9000 = true := by decide +kernel
set_option maxRecDepth 100000 in
theorem c111_59_v : ValidC PPk c111_59 := ct_ok fpk noH_ok (d := 1) (ext := []) (pts := c111_59_pts) (env := c111_59_e) rfl (List.forall_mem_cons.mpr ⟨⟨c112_11_v, Nat.le_of_ble_eq_true rfl⟩, List.forall_mem_cons.mpr ⟨⟨c112_24_v, Nat.le_of_ble_eq_true rfl⟩, fun _ h => (by cases h)⟩⟩) ext_nil (fun q h => (by cases h)) (enF c111_59_k) (fun _ h => (by cases h))

noncomputable def zh399 : AH := [zc131, zc15, qrC 4 [some 3, some 8], zc16, qkC 100 0, qkC 100 1, qkC 100 2, qkC 100 3, zc17, qkC 100 4, qkC 100 5, qkC 100 6, qkC 100 7, zc18, qkC 100 8, qkC 100 9, qkC 100 10, qkC 100 11, qkC 100 12, qkC 100 13, qkC 100 14, zc19, qkC 100 15, qkC 100 16, qkC 100 17, qkC 100 18, qkC 100 19, qkC 100 20, zc20, qkC 102 21, qkC 100 22, qjC 1 1000000060, zc21, qkC 100 23, qkC 100 24, qkC 100 25, qkC 100 26, qkC 100 27, qkC 100 28, qkC 100 29, qkC 100 30, zc130, qjC 1 1000000006, qjC 1 1000000004, zc241, zc162, zc163, qiC 0 [qgN 12 0 0], zc164, qiC 0 [qgN 12 0 0], zc165, qiC 0 [qgN 12 0 0], zc132, qkC 100 33, zc166, qkC 100 34, qkC 100 35, qkC 100 36, qkC 100 37, qkC 100 38, zc376, zc168, zc169, qiC 0 [qgN 12 0 0], zc170, qiC 0 [qgN 12 0 0], zc171, qiC 0 [qgN 3 0 0, qgS 41, qgN 8 0 0], zc133, qkC 100 42, zc172, qkC 100 43, qkC 100 44, qkC 100 45, qkC 100 46, qkC 100 47, qkC 100 48, qkC 100 49]
noncomputable def c110_59 : Ct := (110, 3, (50, [qtA 31, qtN 32 0 1001, qtA 39, qtN 40 0 1001, qtN 41 1 1073741824], [], [qvR 0], zh399, []),
  [((50, [], [], [qvK (.ofNat 3)], zh399, []), 0, 0)])
noncomputable def c110_59_e : List Ct := [c111_59]
noncomputable def c110_59_pts : List PE := []
set_option maxRecDepth 100000 in
theorem c110_59_k : enCtF c110_59 c110_59_e (pkP (c110_59_pts ++ []) []) (none) noH 3000 = true := by decide +kernel
set_option maxRecDepth 100000 in
theorem c110_59_v : ValidC PPk c110_59 := ct_ok fpk noH_ok (d := 2) (ext := []) (pts := c110_59_pts) (env := c110_59_e) rfl (List.forall_mem_cons.mpr ⟨⟨c111_59_v, Nat.le_of_ble_eq_true rfl⟩, fun _ h => (by cases h)⟩) ext_nil (fun q h => (by cases h)) (enF c110_59_k) (fun _ h => (by cases h))

noncomputable def zh400 : AH := [zc98, zc31, zc32, qiC 0 [qgN 12 0 0], zc33, qiC 0 [qgN 12 0 0], zc34, qiC 0 [qgN 12 0 0], zc14, qkC 100 2, zc35, qkC 100 3, qkC 100 4, qkC 100 5, qkC 100 6, qkC 100 7, zc374, zc156, zc157, qiC 0 [qgN 12 0 0], zc158, qiC 0 [qgN 12 0 0], zc159, zc282, zc160, qkC 100 10, zc161, qkC 100 11, qkC 100 12, qkC 100 13, qkC 100 14, qkC 100 15]
noncomputable def c111_60 : Ct := (111, 2, (16, [qtA 0, qtN 1 0 1001, qtA 8, qtN 9 0 1001], [], [qvR 0, qvR 16], zh400, []),
  [((16, [], [], [qvK (.ofNat 0)], zh400, []), 0, 0)])
noncomputable def c111_60_e : List Ct := [c112_12, c112_24]
noncomputable def c111_60_pts : List PE := []
set_option maxRecDepth 100000 in
theorem c111_60_k : enCtF c111_60 c111_60_e (pkP (c111_60_pts ++ []) []) (none) noH 9000 = true := by decide +kernel
set_option maxRecDepth 100000 in
theorem c111_60_v : ValidC PPk c111_60 := ct_ok fpk noH_ok (d := 1) (ext := []) (pts := c111_60_pts) (env := c111_60_e) rfl (List.forall_mem_cons.mpr ⟨⟨c112_12_v, Nat.le_of_ble_eq_true rfl⟩, List.forall_mem_cons.mpr ⟨⟨c112_24_v, Nat.le_of_ble_eq_true rfl⟩, fun _ h => (by cases h)⟩⟩) ext_nil (fun q h => (by cases h)) (enF c111_60_k) (fun _ h => (by cases h))

noncomputable def zh401 : AH := [zc131, zc15, qrC 4 [some 3, some 8], zc16, qkC 100 0, qkC 100 1, qkC 100 2, qkC 100 3, zc17, qkC 100 4, qkC 100 5, qkC 100 6, qkC 100 7, zc18, qkC 100 8, qkC 100 9, qkC 100 10, qkC 100 11, qkC 100 12, qkC 100 13, qkC 100 14, zc19, qkC 100 15, qkC 100 16, qkC 100 17, qkC 100 18, qkC 100 19, qkC 100 20, zc20, qkC 102 21, qkC 100 22, qjC 1 1000000060, zc21, qkC 100 23, qkC 100 24, qkC 100 25, qkC 100 26, qkC 100 27, qkC 100 28, qkC 100 29, qkC 100 30, zc130, qjC 1 1000000006, qjC 1 1000000004, zc241, zc162, zc163, qiC 0 [qgN 12 0 0], zc164, qiC 0 [qgN 12 0 0], zc165, qiC 0 [qgN 12 0 0], zc132, qkC 100 33, zc166, qkC 100 34, qkC 100 35, qkC 100 36, qkC 100 37, qkC 100 38, zc376, zc168, zc169, qiC 0 [qgN 12 0 0], zc170, qiC 0 [qgN 12 0 0], zc171, zc282, zc133, qkC 100 41, zc172, qkC 100 42, qkC 100 43, qkC 100 44, qkC 100 45, qkC 100 46, qkC 100 47, qkC 100 48]
noncomputable def c110_60 : Ct := (110, 3, (49, [qtA 31, qtN 32 0 1001, qtA 39, qtN 40 0 1001], [], [qvR 0], zh401, []),
  [((49, [], [], [qvK (.ofNat 3)], zh401, []), 0, 0)])
noncomputable def c110_60_e : List Ct := [c111_60]
noncomputable def c110_60_pts : List PE := []
set_option maxRecDepth 100000 in
theorem c110_60_k : enCtF c110_60 c110_60_e (pkP (c110_60_pts ++ []) []) (none) noH 3000 = true := by decide +kernel
set_option maxRecDepth 100000 in
theorem c110_60_v : ValidC PPk c110_60 := ct_ok fpk noH_ok (d := 2) (ext := []) (pts := c110_60_pts) (env := c110_60_e) rfl (List.forall_mem_cons.mpr ⟨⟨c111_60_v, Nat.le_of_ble_eq_true rfl⟩, fun _ h => (by cases h)⟩) ext_nil (fun q h => (by cases h)) (enF c110_60_k) (fun _ h => (by cases h))

noncomputable def zh402 : AH := [zc98, zc31, zc32, qiC 0 [qgN 12 0 0], zc33, qiC 0 [qgN 12 0 0], zc34, qiC 0 [qgN 12 0 0], zc14, qkC 100 2, zc35, qkC 100 3, qkC 100 4, qkC 100 5, qkC 100 6, qkC 100 7, zc374, zc156, zc157, qiC 0 [qgN 12 0 0], zc158, qiC 0 [qgN 12 0 0], zc159, qiC 0 [qgN 4 0 0, qgS 10, qgN 7 0 0], zc160, qkC 100 11, zc161, qkC 100 12, qkC 100 13, qkC 100 14, qkC 100 15, qkC 100 16]
noncomputable def c111_61 : Ct := (111, 2, (17, [qtA 0, qtN 1 0 1001, qtA 8, qtN 9 0 1001, qtN 10 1 1073741824], [], [qvR 0, qvR 16], zh402, []),
  [((17, [], [], [qvK (.ofNat 0)], zh402, []), 0, 0)])
noncomputable def c111_61_e : List Ct := [c112_13, c112_24]
noncomputable def c111_61_pts : List PE := []
set_option maxRecDepth 100000 in
theorem c111_61_k : enCtF c111_61 c111_61_e (pkP (c111_61_pts ++ []) []) (none) noH 9000 = true := by decide +kernel
set_option maxRecDepth 100000 in
theorem c111_61_v : ValidC PPk c111_61 := ct_ok fpk noH_ok (d := 1) (ext := []) (pts := c111_61_pts) (env := c111_61_e) rfl (List.forall_mem_cons.mpr ⟨⟨c112_13_v, Nat.le_of_ble_eq_true rfl⟩, List.forall_mem_cons.mpr ⟨⟨c112_24_v, Nat.le_of_ble_eq_true rfl⟩, fun _ h => (by cases h)⟩⟩) ext_nil (fun q h => (by cases h)) (enF c111_61_k) (fun _ h => (by cases h))

noncomputable def zh403 : AH := [zc131, zc15, qrC 4 [some 3, some 8], zc16, qkC 100 0, qkC 100 1, qkC 100 2, qkC 100 3, zc17, qkC 100 4, qkC 100 5, qkC 100 6, qkC 100 7, zc18, qkC 100 8, qkC 100 9, qkC 100 10, qkC 100 11, qkC 100 12, qkC 100 13, qkC 100 14, zc19, qkC 100 15, qkC 100 16, qkC 100 17, qkC 100 18, qkC 100 19, qkC 100 20, zc20, qkC 102 21, qkC 100 22, qjC 1 1000000060, zc21, qkC 100 23, qkC 100 24, qkC 100 25, qkC 100 26, qkC 100 27, qkC 100 28, qkC 100 29, qkC 100 30, zc130, qjC 1 1000000006, qjC 1 1000000004, zc241, zc162, zc163, qiC 0 [qgN 12 0 0], zc164, qiC 0 [qgN 12 0 0], zc165, qiC 0 [qgN 12 0 0], zc132, qkC 100 33, zc166, qkC 100 34, qkC 100 35, qkC 100 36, qkC 100 37, qkC 100 38, zc376, zc168, zc169, qiC 0 [qgN 12 0 0], zc170, qiC 0 [qgN 12 0 0], zc171, qiC 0 [qgN 4 0 0, qgS 41, qgN 7 0 0], zc133, qkC 100 42, zc172, qkC 100 43, qkC 100 44, qkC 100 45, qkC 100 46, qkC 100 47, qkC 100 48, qkC 100 49]
noncomputable def c110_61 : Ct := (110, 3, (50, [qtA 31, qtN 32 0 1001, qtA 39, qtN 40 0 1001, qtN 41 1 1073741824], [], [qvR 0], zh403, []),
  [((50, [], [], [qvK (.ofNat 3)], zh403, []), 0, 0)])
noncomputable def c110_61_e : List Ct := [c111_61]
noncomputable def c110_61_pts : List PE := []
set_option maxRecDepth 100000 in
theorem c110_61_k : enCtF c110_61 c110_61_e (pkP (c110_61_pts ++ []) []) (none) noH 3000 = true := by decide +kernel
set_option maxRecDepth 100000 in
theorem c110_61_v : ValidC PPk c110_61 := ct_ok fpk noH_ok (d := 2) (ext := []) (pts := c110_61_pts) (env := c110_61_e) rfl (List.forall_mem_cons.mpr ⟨⟨c111_61_v, Nat.le_of_ble_eq_true rfl⟩, fun _ h => (by cases h)⟩) ext_nil (fun q h => (by cases h)) (enF c110_61_k) (fun _ h => (by cases h))

noncomputable def zh404 : AH := [zc98, zc31, zc32, qiC 0 [qgN 12 0 0], zc33, qiC 0 [qgN 12 0 0], zc34, qiC 0 [qgN 12 0 0], zc14, qkC 100 2, zc35, qkC 100 3, qkC 100 4, qkC 100 5, qkC 100 6, qkC 100 7, zc374, zc156, zc157, qiC 0 [qgN 12 0 0], zc158, qiC 0 [qgN 12 0 0], zc159, zc289, zc160, qkC 100 10, zc161, qkC 100 11, qkC 100 12, qkC 100 13, qkC 100 14, qkC 100 15]
noncomputable def c111_62 : Ct := (111, 2, (16, [qtA 0, qtN 1 0 1001, qtA 8, qtN 9 0 1001], [], [qvR 0, qvR 16], zh404, []),
  [((16, [], [], [qvK (.ofNat 0)], zh404, []), 0, 0)])
noncomputable def c111_62_e : List Ct := [c112_14, c112_24]
noncomputable def c111_62_pts : List PE := []
set_option maxRecDepth 100000 in
theorem c111_62_k : enCtF c111_62 c111_62_e (pkP (c111_62_pts ++ []) []) (none) noH 9000 = true := by decide +kernel
set_option maxRecDepth 100000 in
theorem c111_62_v : ValidC PPk c111_62 := ct_ok fpk noH_ok (d := 1) (ext := []) (pts := c111_62_pts) (env := c111_62_e) rfl (List.forall_mem_cons.mpr ⟨⟨c112_14_v, Nat.le_of_ble_eq_true rfl⟩, List.forall_mem_cons.mpr ⟨⟨c112_24_v, Nat.le_of_ble_eq_true rfl⟩, fun _ h => (by cases h)⟩⟩) ext_nil (fun q h => (by cases h)) (enF c111_62_k) (fun _ h => (by cases h))

noncomputable def zh405 : AH := [zc131, zc15, qrC 4 [some 3, some 8], zc16, qkC 100 0, qkC 100 1, qkC 100 2, qkC 100 3, zc17, qkC 100 4, qkC 100 5, qkC 100 6, qkC 100 7, zc18, qkC 100 8, qkC 100 9, qkC 100 10, qkC 100 11, qkC 100 12, qkC 100 13, qkC 100 14, zc19, qkC 100 15, qkC 100 16, qkC 100 17, qkC 100 18, qkC 100 19, qkC 100 20, zc20, qkC 102 21, qkC 100 22, qjC 1 1000000060, zc21, qkC 100 23, qkC 100 24, qkC 100 25, qkC 100 26, qkC 100 27, qkC 100 28, qkC 100 29, qkC 100 30, zc130, qjC 1 1000000006, qjC 1 1000000004, zc241, zc162, zc163, qiC 0 [qgN 12 0 0], zc164, qiC 0 [qgN 12 0 0], zc165, qiC 0 [qgN 12 0 0], zc132, qkC 100 33, zc166, qkC 100 34, qkC 100 35, qkC 100 36, qkC 100 37, qkC 100 38, zc376, zc168, zc169, qiC 0 [qgN 12 0 0], zc170, qiC 0 [qgN 12 0 0], zc171, zc289, zc133, qkC 100 41, zc172, qkC 100 42, qkC 100 43, qkC 100 44, qkC 100 45, qkC 100 46, qkC 100 47, qkC 100 48]
noncomputable def c110_62 : Ct := (110, 3, (49, [qtA 31, qtN 32 0 1001, qtA 39, qtN 40 0 1001], [], [qvR 0], zh405, []),
  [((49, [], [], [qvK (.ofNat 3)], zh405, []), 0, 0)])
noncomputable def c110_62_e : List Ct := [c111_62]
noncomputable def c110_62_pts : List PE := []
set_option maxRecDepth 100000 in
theorem c110_62_k : enCtF c110_62 c110_62_e (pkP (c110_62_pts ++ []) []) (none) noH 3000 = true := by decide +kernel
set_option maxRecDepth 100000 in
theorem c110_62_v : ValidC PPk c110_62 := ct_ok fpk noH_ok (d := 2) (ext := []) (pts := c110_62_pts) (env := c110_62_e) rfl (List.forall_mem_cons.mpr ⟨⟨c111_62_v, Nat.le_of_ble_eq_true rfl⟩, fun _ h => (by cases h)⟩) ext_nil (fun q h => (by cases h)) (enF c110_62_k) (fun _ h => (by cases h))

noncomputable def zh406 : AH := [zc98, zc31, zc32, qiC 0 [qgN 12 0 0], zc33, qiC 0 [qgN 12 0 0], zc34, qiC 0 [qgN 12 0 0], zc14, qkC 100 2, zc35, qkC 100 3, qkC 100 4, qkC 100 5, qkC 100 6, qkC 100 7, zc374, zc156, zc157, qiC 0 [qgN 12 0 0], zc158, qiC 0 [qgN 12 0 0], zc159, qiC 0 [qgN 5 0 0, qgS 10, qgN 6 0 0], zc160, qkC 100 11, zc161, qkC 100 12, qkC 100 13, qkC 100 14, qkC 100 15, qkC 100 16]
noncomputable def c111_63 : Ct := (111, 2, (17, [qtA 0, qtN 1 0 1001, qtA 8, qtN 9 0 1001, qtN 10 1 1073741824], [], [qvR 0, qvR 16], zh406, []),
  [((17, [], [], [qvK (.ofNat 0)], zh406, []), 0, 0)])
noncomputable def c111_63_e : List Ct := [c112_15, c112_24]
noncomputable def c111_63_pts : List PE := []
set_option maxRecDepth 100000 in
theorem c111_63_k : enCtF c111_63 c111_63_e (pkP (c111_63_pts ++ []) []) (none) noH 9000 = true := by decide +kernel
set_option maxRecDepth 100000 in
theorem c111_63_v : ValidC PPk c111_63 := ct_ok fpk noH_ok (d := 1) (ext := []) (pts := c111_63_pts) (env := c111_63_e) rfl (List.forall_mem_cons.mpr ⟨⟨c112_15_v, Nat.le_of_ble_eq_true rfl⟩, List.forall_mem_cons.mpr ⟨⟨c112_24_v, Nat.le_of_ble_eq_true rfl⟩, fun _ h => (by cases h)⟩⟩) ext_nil (fun q h => (by cases h)) (enF c111_63_k) (fun _ h => (by cases h))

noncomputable def zh407 : AH := [zc131, zc15, qrC 4 [some 3, some 8], zc16, qkC 100 0, qkC 100 1, qkC 100 2, qkC 100 3, zc17, qkC 100 4, qkC 100 5, qkC 100 6, qkC 100 7, zc18, qkC 100 8, qkC 100 9, qkC 100 10, qkC 100 11, qkC 100 12, qkC 100 13, qkC 100 14, zc19, qkC 100 15, qkC 100 16, qkC 100 17, qkC 100 18, qkC 100 19, qkC 100 20, zc20, qkC 102 21, qkC 100 22, qjC 1 1000000060, zc21, qkC 100 23, qkC 100 24, qkC 100 25, qkC 100 26, qkC 100 27, qkC 100 28, qkC 100 29, qkC 100 30, zc130, qjC 1 1000000006, qjC 1 1000000004, zc241, zc162, zc163, qiC 0 [qgN 12 0 0], zc164, qiC 0 [qgN 12 0 0], zc165, qiC 0 [qgN 12 0 0], zc132, qkC 100 33, zc166, qkC 100 34, qkC 100 35, qkC 100 36, qkC 100 37, qkC 100 38, zc376, zc168, zc169, qiC 0 [qgN 12 0 0], zc170, qiC 0 [qgN 12 0 0], zc171, qiC 0 [qgN 5 0 0, qgS 41, qgN 6 0 0], zc133, qkC 100 42, zc172, qkC 100 43, qkC 100 44, qkC 100 45, qkC 100 46, qkC 100 47, qkC 100 48, qkC 100 49]
noncomputable def c110_63 : Ct := (110, 3, (50, [qtA 31, qtN 32 0 1001, qtA 39, qtN 40 0 1001, qtN 41 1 1073741824], [], [qvR 0], zh407, []),
  [((50, [], [], [qvK (.ofNat 3)], zh407, []), 0, 0)])
noncomputable def c110_63_e : List Ct := [c111_63]
noncomputable def c110_63_pts : List PE := []
set_option maxRecDepth 100000 in
theorem c110_63_k : enCtF c110_63 c110_63_e (pkP (c110_63_pts ++ []) []) (none) noH 3000 = true := by decide +kernel
set_option maxRecDepth 100000 in
theorem c110_63_v : ValidC PPk c110_63 := ct_ok fpk noH_ok (d := 2) (ext := []) (pts := c110_63_pts) (env := c110_63_e) rfl (List.forall_mem_cons.mpr ⟨⟨c111_63_v, Nat.le_of_ble_eq_true rfl⟩, fun _ h => (by cases h)⟩) ext_nil (fun q h => (by cases h)) (enF c110_63_k) (fun _ h => (by cases h))

noncomputable def zh408 : AH := [zc98, zc31, zc32, qiC 0 [qgN 12 0 0], zc33, qiC 0 [qgN 12 0 0], zc34, qiC 0 [qgN 12 0 0], zc14, qkC 100 2, zc35, qkC 100 3, qkC 100 4, qkC 100 5, qkC 100 6, qkC 100 7, zc374, zc156, zc157, qiC 0 [qgN 12 0 0], zc158, qiC 0 [qgN 12 0 0], zc159, zc296, zc160, qkC 100 10, zc161, qkC 100 11, qkC 100 12, qkC 100 13, qkC 100 14, qkC 100 15]
noncomputable def c111_64 : Ct := (111, 2, (16, [qtA 0, qtN 1 0 1001, qtA 8, qtN 9 0 1001], [], [qvR 0, qvR 16], zh408, []),
  [((16, [], [], [qvK (.ofNat 0)], zh408, []), 0, 0)])
noncomputable def c111_64_e : List Ct := [c112_16, c112_24]
noncomputable def c111_64_pts : List PE := []
set_option maxRecDepth 100000 in
theorem c111_64_k : enCtF c111_64 c111_64_e (pkP (c111_64_pts ++ []) []) (none) noH 9000 = true := by decide +kernel
set_option maxRecDepth 100000 in
theorem c111_64_v : ValidC PPk c111_64 := ct_ok fpk noH_ok (d := 1) (ext := []) (pts := c111_64_pts) (env := c111_64_e) rfl (List.forall_mem_cons.mpr ⟨⟨c112_16_v, Nat.le_of_ble_eq_true rfl⟩, List.forall_mem_cons.mpr ⟨⟨c112_24_v, Nat.le_of_ble_eq_true rfl⟩, fun _ h => (by cases h)⟩⟩) ext_nil (fun q h => (by cases h)) (enF c111_64_k) (fun _ h => (by cases h))

noncomputable def zh409 : AH := [zc131, zc15, qrC 4 [some 3, some 8], zc16, qkC 100 0, qkC 100 1, qkC 100 2, qkC 100 3, zc17, qkC 100 4, qkC 100 5, qkC 100 6, qkC 100 7, zc18, qkC 100 8, qkC 100 9, qkC 100 10, qkC 100 11, qkC 100 12, qkC 100 13, qkC 100 14, zc19, qkC 100 15, qkC 100 16, qkC 100 17, qkC 100 18, qkC 100 19, qkC 100 20, zc20, qkC 102 21, qkC 100 22, qjC 1 1000000060, zc21, qkC 100 23, qkC 100 24, qkC 100 25, qkC 100 26, qkC 100 27, qkC 100 28, qkC 100 29, qkC 100 30, zc130, qjC 1 1000000006, qjC 1 1000000004, zc241, zc162, zc163, qiC 0 [qgN 12 0 0], zc164, qiC 0 [qgN 12 0 0], zc165, qiC 0 [qgN 12 0 0], zc132, qkC 100 33, zc166, qkC 100 34, qkC 100 35, qkC 100 36, qkC 100 37, qkC 100 38, zc376, zc168, zc169, qiC 0 [qgN 12 0 0], zc170, qiC 0 [qgN 12 0 0], zc171, zc296, zc133, qkC 100 41, zc172, qkC 100 42, qkC 100 43, qkC 100 44, qkC 100 45, qkC 100 46, qkC 100 47, qkC 100 48]
noncomputable def c110_64 : Ct := (110, 3, (49, [qtA 31, qtN 32 0 1001, qtA 39, qtN 40 0 1001], [], [qvR 0], zh409, []),
  [((49, [], [], [qvK (.ofNat 3)], zh409, []), 0, 0)])
noncomputable def c110_64_e : List Ct := [c111_64]
noncomputable def c110_64_pts : List PE := []
set_option maxRecDepth 100000 in
theorem c110_64_k : enCtF c110_64 c110_64_e (pkP (c110_64_pts ++ []) []) (none) noH 3000 = true := by decide +kernel
set_option maxRecDepth 100000 in
theorem c110_64_v : ValidC PPk c110_64 := ct_ok fpk noH_ok (d := 2) (ext := []) (pts := c110_64_pts) (env := c110_64_e) rfl (List.forall_mem_cons.mpr ⟨⟨c111_64_v, Nat.le_of_ble_eq_true rfl⟩, fun _ h => (by cases h)⟩) ext_nil (fun q h => (by cases h)) (enF c110_64_k) (fun _ h => (by cases h))

noncomputable def zh410 : AH := [zc98, zc31, zc32, qiC 0 [qgN 12 0 0], zc33, qiC 0 [qgN 12 0 0], zc34, qiC 0 [qgN 12 0 0], zc14, qkC 100 2, zc35, qkC 100 3, qkC 100 4, qkC 100 5, qkC 100 6, qkC 100 7, zc374, zc156, zc157, qiC 0 [qgN 12 0 0], zc158, qiC 0 [qgN 12 0 0], zc159, qiC 0 [qgN 6 0 0, qgS 10, qgN 5 0 0], zc160, qkC 100 11, zc161, qkC 100 12, qkC 100 13, qkC 100 14, qkC 100 15, qkC 100 16]
noncomputable def c111_65 : Ct := (111, 2, (17, [qtA 0, qtN 1 0 1001, qtA 8, qtN 9 0 1001, qtN 10 1 1073741824], [], [qvR 0, qvR 16], zh410, []),
  [((17, [], [], [qvK (.ofNat 0)], zh410, []), 0, 0)])
noncomputable def c111_65_e : List Ct := [c112_17, c112_24]
noncomputable def c111_65_pts : List PE := []
set_option maxRecDepth 100000 in
theorem c111_65_k : enCtF c111_65 c111_65_e (pkP (c111_65_pts ++ []) []) (none) noH 9000 = true := by decide +kernel
set_option maxRecDepth 100000 in
theorem c111_65_v : ValidC PPk c111_65 := ct_ok fpk noH_ok (d := 1) (ext := []) (pts := c111_65_pts) (env := c111_65_e) rfl (List.forall_mem_cons.mpr ⟨⟨c112_17_v, Nat.le_of_ble_eq_true rfl⟩, List.forall_mem_cons.mpr ⟨⟨c112_24_v, Nat.le_of_ble_eq_true rfl⟩, fun _ h => (by cases h)⟩⟩) ext_nil (fun q h => (by cases h)) (enF c111_65_k) (fun _ h => (by cases h))

noncomputable def zh411 : AH := [zc131, zc15, qrC 4 [some 3, some 8], zc16, qkC 100 0, qkC 100 1, qkC 100 2, qkC 100 3, zc17, qkC 100 4, qkC 100 5, qkC 100 6, qkC 100 7, zc18, qkC 100 8, qkC 100 9, qkC 100 10, qkC 100 11, qkC 100 12, qkC 100 13, qkC 100 14, zc19, qkC 100 15, qkC 100 16, qkC 100 17, qkC 100 18, qkC 100 19, qkC 100 20, zc20, qkC 102 21, qkC 100 22, qjC 1 1000000060, zc21, qkC 100 23, qkC 100 24, qkC 100 25, qkC 100 26, qkC 100 27, qkC 100 28, qkC 100 29, qkC 100 30, zc130, qjC 1 1000000006, qjC 1 1000000004, zc241, zc162, zc163, qiC 0 [qgN 12 0 0], zc164, qiC 0 [qgN 12 0 0], zc165, qiC 0 [qgN 12 0 0], zc132, qkC 100 33, zc166, qkC 100 34, qkC 100 35, qkC 100 36, qkC 100 37, qkC 100 38, zc376, zc168, zc169, qiC 0 [qgN 12 0 0], zc170, qiC 0 [qgN 12 0 0], zc171, qiC 0 [qgN 6 0 0, qgS 41, qgN 5 0 0], zc133, qkC 100 42, zc172, qkC 100 43, qkC 100 44, qkC 100 45, qkC 100 46, qkC 100 47, qkC 100 48, qkC 100 49]
noncomputable def c110_65 : Ct := (110, 3, (50, [qtA 31, qtN 32 0 1001, qtA 39, qtN 40 0 1001, qtN 41 1 1073741824], [], [qvR 0], zh411, []),
  [((50, [], [], [qvK (.ofNat 3)], zh411, []), 0, 0)])
noncomputable def c110_65_e : List Ct := [c111_65]
noncomputable def c110_65_pts : List PE := []
set_option maxRecDepth 100000 in
theorem c110_65_k : enCtF c110_65 c110_65_e (pkP (c110_65_pts ++ []) []) (none) noH 3000 = true := by decide +kernel
set_option maxRecDepth 100000 in
theorem c110_65_v : ValidC PPk c110_65 := ct_ok fpk noH_ok (d := 2) (ext := []) (pts := c110_65_pts) (env := c110_65_e) rfl (List.forall_mem_cons.mpr ⟨⟨c111_65_v, Nat.le_of_ble_eq_true rfl⟩, fun _ h => (by cases h)⟩) ext_nil (fun q h => (by cases h)) (enF c110_65_k) (fun _ h => (by cases h))

noncomputable def zh412 : AH := [zc98, zc31, zc32, qiC 0 [qgN 12 0 0], zc33, qiC 0 [qgN 12 0 0], zc34, qiC 0 [qgN 12 0 0], zc14, qkC 100 2, zc35, qkC 100 3, qkC 100 4, qkC 100 5, qkC 100 6, qkC 100 7, zc374, zc156, zc157, qiC 0 [qgN 12 0 0], zc158, qiC 0 [qgN 12 0 0], zc159, zc303, zc160, qkC 100 10, zc161, qkC 100 11, qkC 100 12, qkC 100 13, qkC 100 14, qkC 100 15]
noncomputable def c111_66 : Ct := (111, 2, (16, [qtA 0, qtN 1 0 1001, qtA 8, qtN 9 0 1001], [], [qvR 0, qvR 16], zh412, []),
  [((16, [], [], [qvK (.ofNat 0)], zh412, []), 0, 0)])
noncomputable def c111_66_e : List Ct := [c112_18, c112_24]
noncomputable def c111_66_pts : List PE := []
set_option maxRecDepth 100000 in
theorem c111_66_k : enCtF c111_66 c111_66_e (pkP (c111_66_pts ++ []) []) (none) noH 9000 = true := by decide +kernel
set_option maxRecDepth 100000 in
theorem c111_66_v : ValidC PPk c111_66 := ct_ok fpk noH_ok (d := 1) (ext := []) (pts := c111_66_pts) (env := c111_66_e) rfl (List.forall_mem_cons.mpr ⟨⟨c112_18_v, Nat.le_of_ble_eq_true rfl⟩, List.forall_mem_cons.mpr ⟨⟨c112_24_v, Nat.le_of_ble_eq_true rfl⟩, fun _ h => (by cases h)⟩⟩) ext_nil (fun q h => (by cases h)) (enF c111_66_k) (fun _ h => (by cases h))

noncomputable def zh413 : AH := [zc131, zc15, qrC 4 [some 3, some 8], zc16, qkC 100 0, qkC 100 1, qkC 100 2, qkC 100 3, zc17, qkC 100 4, qkC 100 5, qkC 100 6, qkC 100 7, zc18, qkC 100 8, qkC 100 9, qkC 100 10, qkC 100 11, qkC 100 12, qkC 100 13, qkC 100 14, zc19, qkC 100 15, qkC 100 16, qkC 100 17, qkC 100 18, qkC 100 19, qkC 100 20, zc20, qkC 102 21, qkC 100 22, qjC 1 1000000060, zc21, qkC 100 23, qkC 100 24, qkC 100 25, qkC 100 26, qkC 100 27, qkC 100 28, qkC 100 29, qkC 100 30, zc130, qjC 1 1000000006, qjC 1 1000000004, zc241, zc162, zc163, qiC 0 [qgN 12 0 0], zc164, qiC 0 [qgN 12 0 0], zc165, qiC 0 [qgN 12 0 0], zc132, qkC 100 33, zc166, qkC 100 34, qkC 100 35, qkC 100 36, qkC 100 37, qkC 100 38, zc376, zc168, zc169, qiC 0 [qgN 12 0 0], zc170, qiC 0 [qgN 12 0 0], zc171, zc303, zc133, qkC 100 41, zc172, qkC 100 42, qkC 100 43, qkC 100 44, qkC 100 45, qkC 100 46, qkC 100 47, qkC 100 48]
noncomputable def c110_66 : Ct := (110, 3, (49, [qtA 31, qtN 32 0 1001, qtA 39, qtN 40 0 1001], [], [qvR 0], zh413, []),
  [((49, [], [], [qvK (.ofNat 3)], zh413, []), 0, 0)])
noncomputable def c110_66_e : List Ct := [c111_66]
noncomputable def c110_66_pts : List PE := []
set_option maxRecDepth 100000 in
theorem c110_66_k : enCtF c110_66 c110_66_e (pkP (c110_66_pts ++ []) []) (none) noH 3000 = true := by decide +kernel
set_option maxRecDepth 100000 in
theorem c110_66_v : ValidC PPk c110_66 := ct_ok fpk noH_ok (d := 2) (ext := []) (pts := c110_66_pts) (env := c110_66_e) rfl (List.forall_mem_cons.mpr ⟨⟨c111_66_v, Nat.le_of_ble_eq_true rfl⟩, fun _ h => (by cases h)⟩) ext_nil (fun q h => (by cases h)) (enF c110_66_k) (fun _ h => (by cases h))

noncomputable def zh414 : AH := [zc98, zc31, zc32, qiC 0 [qgN 12 0 0], zc33, qiC 0 [qgN 12 0 0], zc34, qiC 0 [qgN 12 0 0], zc14, qkC 100 2, zc35, qkC 100 3, qkC 100 4, qkC 100 5, qkC 100 6, qkC 100 7, zc374, zc156, zc157, qiC 0 [qgN 12 0 0], zc158, qiC 0 [qgN 12 0 0], zc159, qiC 0 [qgN 7 0 0, qgS 10, qgN 4 0 0], zc160, qkC 100 11, zc161, qkC 100 12, qkC 100 13, qkC 100 14, qkC 100 15, qkC 100 16]
noncomputable def c111_67 : Ct := (111, 2, (17, [qtA 0, qtN 1 0 1001, qtA 8, qtN 9 0 1001, qtN 10 1 1073741824], [], [qvR 0, qvR 16], zh414, []),
  [((17, [], [], [qvK (.ofNat 0)], zh414, []), 0, 0)])
noncomputable def c111_67_e : List Ct := [c112_19, c112_24]
noncomputable def c111_67_pts : List PE := []
set_option maxRecDepth 100000 in
theorem c111_67_k : enCtF c111_67 c111_67_e (pkP (c111_67_pts ++ []) []) (none) noH 9000 = true := by decide +kernel
set_option maxRecDepth 100000 in
theorem c111_67_v : ValidC PPk c111_67 := ct_ok fpk noH_ok (d := 1) (ext := []) (pts := c111_67_pts) (env := c111_67_e) rfl (List.forall_mem_cons.mpr ⟨⟨c112_19_v, Nat.le_of_ble_eq_true rfl⟩, List.forall_mem_cons.mpr ⟨⟨c112_24_v, Nat.le_of_ble_eq_true rfl⟩, fun _ h => (by cases h)⟩⟩) ext_nil (fun q h => (by cases h)) (enF c111_67_k) (fun _ h => (by cases h))

noncomputable def zh415 : AH := [zc131, zc15, qrC 4 [some 3, some 8], zc16, qkC 100 0, qkC 100 1, qkC 100 2, qkC 100 3, zc17, qkC 100 4, qkC 100 5, qkC 100 6, qkC 100 7, zc18, qkC 100 8, qkC 100 9, qkC 100 10, qkC 100 11, qkC 100 12, qkC 100 13, qkC 100 14, zc19, qkC 100 15, qkC 100 16, qkC 100 17, qkC 100 18, qkC 100 19, qkC 100 20, zc20, qkC 102 21, qkC 100 22, qjC 1 1000000060, zc21, qkC 100 23, qkC 100 24, qkC 100 25, qkC 100 26, qkC 100 27, qkC 100 28, qkC 100 29, qkC 100 30, zc130, qjC 1 1000000006, qjC 1 1000000004, zc241, zc162, zc163, qiC 0 [qgN 12 0 0], zc164, qiC 0 [qgN 12 0 0], zc165, qiC 0 [qgN 12 0 0], zc132, qkC 100 33, zc166, qkC 100 34, qkC 100 35, qkC 100 36, qkC 100 37, qkC 100 38, zc376, zc168, zc169, qiC 0 [qgN 12 0 0], zc170, qiC 0 [qgN 12 0 0], zc171, qiC 0 [qgN 7 0 0, qgS 41, qgN 4 0 0], zc133, qkC 100 42, zc172, qkC 100 43, qkC 100 44, qkC 100 45, qkC 100 46, qkC 100 47, qkC 100 48, qkC 100 49]
noncomputable def c110_67 : Ct := (110, 3, (50, [qtA 31, qtN 32 0 1001, qtA 39, qtN 40 0 1001, qtN 41 1 1073741824], [], [qvR 0], zh415, []),
  [((50, [], [], [qvK (.ofNat 3)], zh415, []), 0, 0)])
noncomputable def c110_67_e : List Ct := [c111_67]
noncomputable def c110_67_pts : List PE := []
set_option maxRecDepth 100000 in
theorem c110_67_k : enCtF c110_67 c110_67_e (pkP (c110_67_pts ++ []) []) (none) noH 3000 = true := by decide +kernel
set_option maxRecDepth 100000 in
theorem c110_67_v : ValidC PPk c110_67 := ct_ok fpk noH_ok (d := 2) (ext := []) (pts := c110_67_pts) (env := c110_67_e) rfl (List.forall_mem_cons.mpr ⟨⟨c111_67_v, Nat.le_of_ble_eq_true rfl⟩, fun _ h => (by cases h)⟩) ext_nil (fun q h => (by cases h)) (enF c110_67_k) (fun _ h => (by cases h))

noncomputable def zh416 : AH := [zc98, zc31, zc32, qiC 0 [qgN 12 0 0], zc33, qiC 0 [qgN 12 0 0], zc34, qiC 0 [qgN 12 0 0], zc14, qkC 100 2, zc35, qkC 100 3, qkC 100 4, qkC 100 5, qkC 100 6, qkC 100 7, zc374, zc156, zc157, qiC 0 [qgN 12 0 0], zc158, qiC 0 [qgN 12 0 0], zc159, zc310, zc160, qkC 100 10, zc161, qkC 100 11, qkC 100 12, qkC 100 13, qkC 100 14, qkC 100 15]
noncomputable def c111_68 : Ct := (111, 2, (16, [qtA 0, qtN 1 0 1001, qtA 8, qtN 9 0 1001], [], [qvR 0, qvR 16], zh416, []),
  [((16, [], [], [qvK (.ofNat 0)], zh416, []), 0, 0)])
noncomputable def c111_68_e : List Ct := [c112_20, c112_24]
noncomputable def c111_68_pts : List PE := []
set_option maxRecDepth 100000 in
theorem c111_68_k : enCtF c111_68 c111_68_e (pkP (c111_68_pts ++ []) []) (none) noH 9000 = true := by decide +kernel
set_option maxRecDepth 100000 in
theorem c111_68_v : ValidC PPk c111_68 := ct_ok fpk noH_ok (d := 1) (ext := []) (pts := c111_68_pts) (env := c111_68_e) rfl (List.forall_mem_cons.mpr ⟨⟨c112_20_v, Nat.le_of_ble_eq_true rfl⟩, List.forall_mem_cons.mpr ⟨⟨c112_24_v, Nat.le_of_ble_eq_true rfl⟩, fun _ h => (by cases h)⟩⟩) ext_nil (fun q h => (by cases h)) (enF c111_68_k) (fun _ h => (by cases h))

noncomputable def zh417 : AH := [zc131, zc15, qrC 4 [some 3, some 8], zc16, qkC 100 0, qkC 100 1, qkC 100 2, qkC 100 3, zc17, qkC 100 4, qkC 100 5, qkC 100 6, qkC 100 7, zc18, qkC 100 8, qkC 100 9, qkC 100 10, qkC 100 11, qkC 100 12, qkC 100 13, qkC 100 14, zc19, qkC 100 15, qkC 100 16, qkC 100 17, qkC 100 18, qkC 100 19, qkC 100 20, zc20, qkC 102 21, qkC 100 22, qjC 1 1000000060, zc21, qkC 100 23, qkC 100 24, qkC 100 25, qkC 100 26, qkC 100 27, qkC 100 28, qkC 100 29, qkC 100 30, zc130, qjC 1 1000000006, qjC 1 1000000004, zc241, zc162, zc163, qiC 0 [qgN 12 0 0], zc164, qiC 0 [qgN 12 0 0], zc165, qiC 0 [qgN 12 0 0], zc132, qkC 100 33, zc166, qkC 100 34, qkC 100 35, qkC 100 36, qkC 100 37, qkC 100 38, zc376, zc168, zc169, qiC 0 [qgN 12 0 0], zc170, qiC 0 [qgN 12 0 0], zc171, zc310, zc133, qkC 100 41, zc172, qkC 100 42, qkC 100 43, qkC 100 44, qkC 100 45, qkC 100 46, qkC 100 47, qkC 100 48]
noncomputable def c110_68 : Ct := (110, 3, (49, [qtA 31, qtN 32 0 1001, qtA 39, qtN 40 0 1001], [], [qvR 0], zh417, []),
  [((49, [], [], [qvK (.ofNat 3)], zh417, []), 0, 0)])
noncomputable def c110_68_e : List Ct := [c111_68]
noncomputable def c110_68_pts : List PE := []
set_option maxRecDepth 100000 in
theorem c110_68_k : enCtF c110_68 c110_68_e (pkP (c110_68_pts ++ []) []) (none) noH 3000 = true := by decide +kernel
set_option maxRecDepth 100000 in
theorem c110_68_v : ValidC PPk c110_68 := ct_ok fpk noH_ok (d := 2) (ext := []) (pts := c110_68_pts) (env := c110_68_e) rfl (List.forall_mem_cons.mpr ⟨⟨c111_68_v, Nat.le_of_ble_eq_true rfl⟩, fun _ h => (by cases h)⟩) ext_nil (fun q h => (by cases h)) (enF c110_68_k) (fun _ h => (by cases h))

noncomputable def zh418 : AH := [zc98, zc31, zc32, qiC 0 [qgN 12 0 0], zc33, qiC 0 [qgN 12 0 0], zc34, qiC 0 [qgN 12 0 0], zc14, qkC 100 2, zc35, qkC 100 3, qkC 100 4, qkC 100 5, qkC 100 6, qkC 100 7, zc374, zc156, zc157, qiC 0 [qgN 12 0 0], zc158, qiC 0 [qgN 12 0 0], zc159, qiC 0 [qgN 8 0 0, qgS 10, qgN 3 0 0], zc160, qkC 100 11, zc161, qkC 100 12, qkC 100 13, qkC 100 14, qkC 100 15, qkC 100 16]
noncomputable def c111_69 : Ct := (111, 2, (17, [qtA 0, qtN 1 0 1001, qtA 8, qtN 9 0 1001, qtN 10 1 1073741824], [], [qvR 0, qvR 16], zh418, []),
  [((17, [], [], [qvK (.ofNat 0)], zh418, []), 0, 0)])
noncomputable def c111_69_e : List Ct := [c112_21, c112_24]
noncomputable def c111_69_pts : List PE := []
set_option maxRecDepth 100000 in
theorem c111_69_k : enCtF c111_69 c111_69_e (pkP (c111_69_pts ++ []) []) (none) noH 9000 = true := by decide +kernel
set_option maxRecDepth 100000 in
theorem c111_69_v : ValidC PPk c111_69 := ct_ok fpk noH_ok (d := 1) (ext := []) (pts := c111_69_pts) (env := c111_69_e) rfl (List.forall_mem_cons.mpr ⟨⟨c112_21_v, Nat.le_of_ble_eq_true rfl⟩, List.forall_mem_cons.mpr ⟨⟨c112_24_v, Nat.le_of_ble_eq_true rfl⟩, fun _ h => (by cases h)⟩⟩) ext_nil (fun q h => (by cases h)) (enF c111_69_k) (fun _ h => (by cases h))

noncomputable def zh419 : AH := [zc131, zc15, qrC 4 [some 3, some 8], zc16, qkC 100 0, qkC 100 1, qkC 100 2, qkC 100 3, zc17, qkC 100 4, qkC 100 5, qkC 100 6, qkC 100 7, zc18, qkC 100 8, qkC 100 9, qkC 100 10, qkC 100 11, qkC 100 12, qkC 100 13, qkC 100 14, zc19, qkC 100 15, qkC 100 16, qkC 100 17, qkC 100 18, qkC 100 19, qkC 100 20, zc20, qkC 102 21, qkC 100 22, qjC 1 1000000060, zc21, qkC 100 23, qkC 100 24, qkC 100 25, qkC 100 26, qkC 100 27, qkC 100 28, qkC 100 29, qkC 100 30, zc130, qjC 1 1000000006, qjC 1 1000000004, zc241, zc162, zc163, qiC 0 [qgN 12 0 0], zc164, qiC 0 [qgN 12 0 0], zc165, qiC 0 [qgN 12 0 0], zc132, qkC 100 33, zc166, qkC 100 34, qkC 100 35, qkC 100 36, qkC 100 37, qkC 100 38, zc376, zc168, zc169, qiC 0 [qgN 12 0 0], zc170, qiC 0 [qgN 12 0 0], zc171, qiC 0 [qgN 8 0 0, qgS 41, qgN 3 0 0], zc133, qkC 100 42, zc172, qkC 100 43, qkC 100 44, qkC 100 45, qkC 100 46, qkC 100 47, qkC 100 48, qkC 100 49]
noncomputable def c110_69 : Ct := (110, 3, (50, [qtA 31, qtN 32 0 1001, qtA 39, qtN 40 0 1001, qtN 41 1 1073741824], [], [qvR 0], zh419, []),
  [((50, [], [], [qvK (.ofNat 3)], zh419, []), 0, 0)])
noncomputable def c110_69_e : List Ct := [c111_69]
noncomputable def c110_69_pts : List PE := []
set_option maxRecDepth 100000 in
theorem c110_69_k : enCtF c110_69 c110_69_e (pkP (c110_69_pts ++ []) []) (none) noH 3000 = true := by decide +kernel
set_option maxRecDepth 100000 in
theorem c110_69_v : ValidC PPk c110_69 := ct_ok fpk noH_ok (d := 2) (ext := []) (pts := c110_69_pts) (env := c110_69_e) rfl (List.forall_mem_cons.mpr ⟨⟨c111_69_v, Nat.le_of_ble_eq_true rfl⟩, fun _ h => (by cases h)⟩) ext_nil (fun q h => (by cases h)) (enF c110_69_k) (fun _ h => (by cases h))

noncomputable def zh420 : AH := [zc98, zc31, zc32, qiC 0 [qgN 12 0 0], zc33, qiC 0 [qgN 12 0 0], zc34, qiC 0 [qgN 12 0 0], zc14, qkC 100 2, zc35, qkC 100 3, qkC 100 4, qkC 100 5, qkC 100 6, qkC 100 7, zc374, zc156, zc157, qiC 0 [qgN 12 0 0], zc158, qiC 0 [qgN 12 0 0], zc159, zc317, zc160, qkC 100 10, zc161, qkC 100 11, qkC 100 12, qkC 100 13, qkC 100 14, qkC 100 15]
noncomputable def c111_70 : Ct := (111, 2, (16, [qtA 0, qtN 1 0 1001, qtA 8, qtN 9 0 1001], [], [qvR 0, qvR 16], zh420, []),
  [((16, [], [], [qvK (.ofNat 0)], zh420, []), 0, 0)])
noncomputable def c111_70_e : List Ct := [c112_22, c112_24]
noncomputable def c111_70_pts : List PE := []
set_option maxRecDepth 100000 in
theorem c111_70_k : enCtF c111_70 c111_70_e (pkP (c111_70_pts ++ []) []) (none) noH 9000 = true := by decide +kernel
set_option maxRecDepth 100000 in
theorem c111_70_v : ValidC PPk c111_70 := ct_ok fpk noH_ok (d := 1) (ext := []) (pts := c111_70_pts) (env := c111_70_e) rfl (List.forall_mem_cons.mpr ⟨⟨c112_22_v, Nat.le_of_ble_eq_true rfl⟩, List.forall_mem_cons.mpr ⟨⟨c112_24_v, Nat.le_of_ble_eq_true rfl⟩, fun _ h => (by cases h)⟩⟩) ext_nil (fun q h => (by cases h)) (enF c111_70_k) (fun _ h => (by cases h))

noncomputable def zh421 : AH := [zc131, zc15, qrC 4 [some 3, some 8], zc16, qkC 100 0, qkC 100 1, qkC 100 2, qkC 100 3, zc17, qkC 100 4, qkC 100 5, qkC 100 6, qkC 100 7, zc18, qkC 100 8, qkC 100 9, qkC 100 10, qkC 100 11, qkC 100 12, qkC 100 13, qkC 100 14, zc19, qkC 100 15, qkC 100 16, qkC 100 17, qkC 100 18, qkC 100 19, qkC 100 20, zc20, qkC 102 21, qkC 100 22, qjC 1 1000000060, zc21, qkC 100 23, qkC 100 24, qkC 100 25, qkC 100 26, qkC 100 27, qkC 100 28, qkC 100 29, qkC 100 30, zc130, qjC 1 1000000006, qjC 1 1000000004, zc241, zc162, zc163, qiC 0 [qgN 12 0 0], zc164, qiC 0 [qgN 12 0 0], zc165, qiC 0 [qgN 12 0 0], zc132, qkC 100 33, zc166, qkC 100 34, qkC 100 35, qkC 100 36, qkC 100 37, qkC 100 38, zc376, zc168, zc169, qiC 0 [qgN 12 0 0], zc170, qiC 0 [qgN 12 0 0], zc171, zc317, zc133, qkC 100 41, zc172, qkC 100 42, qkC 100 43, qkC 100 44, qkC 100 45, qkC 100 46, qkC 100 47, qkC 100 48]
noncomputable def c110_70 : Ct := (110, 3, (49, [qtA 31, qtN 32 0 1001, qtA 39, qtN 40 0 1001], [], [qvR 0], zh421, []),
  [((49, [], [], [qvK (.ofNat 3)], zh421, []), 0, 0)])
noncomputable def c110_70_e : List Ct := [c111_70]
noncomputable def c110_70_pts : List PE := []
set_option maxRecDepth 100000 in
theorem c110_70_k : enCtF c110_70 c110_70_e (pkP (c110_70_pts ++ []) []) (none) noH 3000 = true := by decide +kernel
set_option maxRecDepth 100000 in
theorem c110_70_v : ValidC PPk c110_70 := ct_ok fpk noH_ok (d := 2) (ext := []) (pts := c110_70_pts) (env := c110_70_e) rfl (List.forall_mem_cons.mpr ⟨⟨c111_70_v, Nat.le_of_ble_eq_true rfl⟩, fun _ h => (by cases h)⟩) ext_nil (fun q h => (by cases h)) (enF c110_70_k) (fun _ h => (by cases h))

noncomputable def zh422 : AH := [zc98, zc31, zc32, qiC 0 [qgN 12 0 0], zc33, qiC 0 [qgN 12 0 0], zc34, qiC 0 [qgN 12 0 0], zc14, qkC 100 2, zc35, qkC 100 3, qkC 100 4, qkC 100 5, qkC 100 6, qkC 100 7, zc374, zc156, zc157, qiC 0 [qgN 12 0 0], zc158, qiC 0 [qgN 12 0 0], zc159, qiC 0 [qgN 9 0 0, qgS 10, qgN 2 0 0], zc160, qkC 100 11, zc161, qkC 100 12, qkC 100 13, qkC 100 14, qkC 100 15, qkC 100 16]
noncomputable def c111_71 : Ct := (111, 2, (17, [qtA 0, qtN 1 0 1001, qtA 8, qtN 9 0 1001, qtN 10 1 1073741824], [], [qvR 0, qvR 16], zh422, []),
  [((17, [], [], [qvK (.ofNat 0)], zh422, []), 0, 0)])
noncomputable def c111_71_e : List Ct := [c112_23, c112_24]
noncomputable def c111_71_pts : List PE := []
set_option maxRecDepth 100000 in
theorem c111_71_k : enCtF c111_71 c111_71_e (pkP (c111_71_pts ++ []) []) (none) noH 9000 = true := by decide +kernel
set_option maxRecDepth 100000 in
theorem c111_71_v : ValidC PPk c111_71 := ct_ok fpk noH_ok (d := 1) (ext := []) (pts := c111_71_pts) (env := c111_71_e) rfl (List.forall_mem_cons.mpr ⟨⟨c112_23_v, Nat.le_of_ble_eq_true rfl⟩, List.forall_mem_cons.mpr ⟨⟨c112_24_v, Nat.le_of_ble_eq_true rfl⟩, fun _ h => (by cases h)⟩⟩) ext_nil (fun q h => (by cases h)) (enF c111_71_k) (fun _ h => (by cases h))

noncomputable def zh423 : AH := [zc131, zc15, qrC 4 [some 3, some 8], zc16, qkC 100 0, qkC 100 1, qkC 100 2, qkC 100 3, zc17, qkC 100 4, qkC 100 5, qkC 100 6, qkC 100 7, zc18, qkC 100 8, qkC 100 9, qkC 100 10, qkC 100 11, qkC 100 12, qkC 100 13, qkC 100 14, zc19, qkC 100 15, qkC 100 16, qkC 100 17, qkC 100 18, qkC 100 19, qkC 100 20, zc20, qkC 102 21, qkC 100 22, qjC 1 1000000060, zc21, qkC 100 23, qkC 100 24, qkC 100 25, qkC 100 26, qkC 100 27, qkC 100 28, qkC 100 29, qkC 100 30, zc130, qjC 1 1000000006, qjC 1 1000000004, zc241, zc162, zc163, qiC 0 [qgN 12 0 0], zc164, qiC 0 [qgN 12 0 0], zc165, qiC 0 [qgN 12 0 0], zc132, qkC 100 33, zc166, qkC 100 34, qkC 100 35, qkC 100 36, qkC 100 37, qkC 100 38, zc376, zc168, zc169, qiC 0 [qgN 12 0 0], zc170, qiC 0 [qgN 12 0 0], zc171, qiC 0 [qgN 9 0 0, qgS 41, qgN 2 0 0], zc133, qkC 100 42, zc172, qkC 100 43, qkC 100 44, qkC 100 45, qkC 100 46, qkC 100 47, qkC 100 48, qkC 100 49]
noncomputable def c110_71 : Ct := (110, 3, (50, [qtA 31, qtN 32 0 1001, qtA 39, qtN 40 0 1001, qtN 41 1 1073741824], [], [qvR 0], zh423, []),
  [((50, [], [], [qvK (.ofNat 3)], zh423, []), 0, 0)])
noncomputable def c110_71_e : List Ct := [c111_71]
noncomputable def c110_71_pts : List PE := []
set_option maxRecDepth 100000 in
theorem c110_71_k : enCtF c110_71 c110_71_e (pkP (c110_71_pts ++ []) []) (none) noH 3000 = true := by decide +kernel
set_option maxRecDepth 100000 in
theorem c110_71_v : ValidC PPk c110_71 := ct_ok fpk noH_ok (d := 2) (ext := []) (pts := c110_71_pts) (env := c110_71_e) rfl (List.forall_mem_cons.mpr ⟨⟨c111_71_v, Nat.le_of_ble_eq_true rfl⟩, fun _ h => (by cases h)⟩) ext_nil (fun q h => (by cases h)) (enF c110_71_k) (fun _ h => (by cases h))
