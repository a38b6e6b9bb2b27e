/-! ===== contracts, written by wip/vse3/emitlaw.py ===== -/
noncomputable def c166_22 : Ct := (166, 3, (21, (zt58 []), [((.negSucc 68), [(0, (.ofNat 1)), (1, (.ofNat 1))])], [qvR 0, qvK (.ofNat 5)], zh141, [(2, [1], []), (1, [1], []), (29, [6], [(sL 1), ((.ofNat 2), []), (sL 18), (sL 19), (sL 20)])]),
  [((22, [qtN 1 1 69, qtN 21 2 70], [((.negSucc 69), [(0, (.ofNat 1)), (1, (.ofNat 1))]), ((.negSucc 1), [(1, (.negSucc 0)), (21, (.ofNat 1))]), ((.negSucc 0), [(1, (.negSucc 0)), (21, (.ofNat 1))]), ((.negSucc 68), [(0, (.ofNat 1)), (1, (.ofNat 1)), (21, (.negSucc 0))]), ((.negSucc 67), [(0, (.ofNat 1)), (1, (.ofNat 1)), (21, (.negSucc 0))]), ((.negSucc 0), [(0, (.negSucc 0)), (1, (.negSucc 0)), (21, (.ofNat 1))])], [qvK (.ofNat 1)], zh146, [(2, [1], []), (1, [1], []), (29, [6], [(sL 21), ((.ofNat 2), []), (sL 18), (sL 19), ((.ofNat 5), [])])]), 0, 0)])
noncomputable def c166_22_e : List Ct := [c162_27, c163_0, c167_48]
noncomputable def c166_22_pts : List PE := []
set_option maxRecDepth 100000 in
theorem c166_22_k : enCtF c166_22 c166_22_e (pkP (c166_22_pts ++ []) []) (none) ((hOr (hWpop 22 6) (hWz 42 6)), noM, 0, 4398050705408, 21) 3000 = true := by decide +kernel
set_option maxRecDepth 100000 in
theorem c166_22_v : ValidC PPk c166_22 := ct_ok fpk ⟨(hOr_ok (hWpop_ok 22 6) (hWz_ok 42 6)), noM_ok⟩ (d := 2) (ext := []) (pts := c166_22_pts) (env := c166_22_e) rfl (List.forall_mem_cons.mpr ⟨⟨c162_27_v, Nat.le_of_ble_eq_true rfl⟩, List.forall_mem_cons.mpr ⟨⟨c163_0_v, Nat.le_of_ble_eq_true rfl⟩, List.forall_mem_cons.mpr ⟨⟨c167_48_v, Nat.le_of_ble_eq_true rfl⟩, fun _ h => (by cases h)⟩⟩⟩) ext_nil (fun q h => (by cases h)) (enF c166_22_k) (fun _ h => (by cases h))

noncomputable def c162_29 : Ct := (162, 2, (21, (zt58 []), [((.negSucc 68), [(0, (.ofNat 1)), (1, (.ofNat 1))])], [qvR 0, qvK (.ofNat 3)], zh141, [(2, [1], []), (1, [1], []), (29, [6], [(sL 1), ((.ofNat 2), []), (sL 18), (sL 19), (sL 20)])]),
  [((23, [qtN 21 1 69, qtN 22 0 2], [((.ofNat 0), [(0, (.negSucc 0)), (1, (.negSucc 0)), (21, (.ofNat 1))]), ((.negSucc 68), [(0, (.ofNat 1)), (1, (.ofNat 1)), (21, (.negSucc 0))]), ((.negSucc 69), [(0, (.ofNat 1)), (1, (.ofNat 1)), (21, (.negSucc 0))]), ((.negSucc 69), [(0, (.ofNat 1)), (1, (.ofNat 1))]), ((.ofNat 0), [(1, (.negSucc 0)), (21, (.ofNat 1))]), ((.negSucc 0), [(1, (.negSucc 0)), (21, (.ofNat 1))])], [], zh143, [(2, [1], []), (1, [1], []), (29, [6], [(sL 21), ((.ofNat 2), []), (sL 18), ((.ofNat 0), []), (sL 22)])]), 0, 0)])
noncomputable def c162_29_e : List Ct := [c163_0, c164_0]
noncomputable def c162_29_p0 : PE := (0, [0, 1], (24, (zt59 []), [((.negSucc 68), [(0, (.ofNat 1)), (1, (.ofNat 1))]), ((.negSucc 69), [(0, (.ofNat 1)), (1, (.ofNat 1))]), ((.ofNat 0), [(0, (.negSucc 0)), (1, (.negSucc 0)), (21, (.ofNat 1))]), ((.negSucc 68), [(0, (.ofNat 1)), (1, (.ofNat 1)), (21, (.negSucc 0))]), ((.negSucc 69), [(0, (.ofNat 1)), (1, (.ofNat 1)), (21, (.negSucc 0))]), ((.ofNat 0), [(1, (.negSucc 0)), (21, (.ofNat 1))]), ((.negSucc 0), [(1, (.negSucc 0)), (21, (.ofNat 1))])], [qvR 0, qvK (.ofNat 3)], zh143, [(2, [1], []), (1, [1], []), (29, [6], [(sL 21), ((.ofNat 2), []), (sL 18), (sL 22), (sL 23)])]), symsL 21 0, some ((.ofNat 139), [(0, (.negSucc 0)), (1, (.negSucc 0)), (21, (.ofNat 1))]), 0, 0)
noncomputable def c162_29_pts : List PE := [c162_29_p0]
set_option maxRecDepth 100000 in
theorem c162_29_k : enCtF c162_29 c162_29_e (pkP (c162_29_pts ++ []) [0]) (none) ((hOr (hWpop 7 6) (hWz 52 6)), noM, 1, 4503599627370624, 21) 3000 = true := by decide +kernel
set_option maxRecDepth 100000 in
theorem c162_29_k0 : ptCtF c162_29 c162_29_e (pkP (c162_29_pts ++ []) [0]) ((hOr (hWpop 7 6) (hWz 52 6)), noM, 1, 4503599627370624, 21) 3000 c162_29_p0 = true := by decide +kernel
set_option maxRecDepth 100000 in
theorem c162_29_v : ValidC PPk c162_29 := ct_ok fpk ⟨(hOr_ok (hWpop_ok 7 6) (hWz_ok 52 6)), noM_ok⟩ (d := 1) (ext := []) (pts := c162_29_pts) (env := c162_29_e) rfl (List.forall_mem_cons.mpr ⟨⟨c163_0_v, Nat.le_of_ble_eq_true rfl⟩, List.forall_mem_cons.mpr ⟨⟨c164_0_v, Nat.le_of_ble_eq_true rfl⟩, fun _ h => (by cases h)⟩⟩) ext_nil (fun q h => (by cases h)) (enF c162_29_k) (List.forall_mem_cons.mpr ⟨⟨_, ptF c162_29_k0⟩, fun _ h => (by cases h)⟩)

noncomputable def c167_49 : Ct := (167, 1, (23, (zt65 []), [], [qvR 0, qvK (.ofNat 8)], zh144, [(2, [1], []), (1, [1], []), (29, [6], [(sL 1), ((.ofNat 2), []), (sL 20), (sL 21), (sL 22)])]),
  [((23, [], [], [], zh145, [(2, [1], []), (1, [1], []), (29, [6], [((.ofNat 1), [(1, (.ofNat 1))]), ((.ofNat 2), []), (sL 20), ((.ofNat 1), []), ((.ofNat 3), [])])]), 0, 0)])
noncomputable def c167_49_e : List Ct := []
noncomputable def c167_49_pts : List PE := []
set_option maxRecDepth 100000 in
theorem c167_49_k : enCtF c167_49 c167_49_e (pkP (c167_49_pts ++ []) []) (none) (noF, (mWst 9), 0, 512, 23) 3000 = true := by decide +kernel
set_option maxRecDepth 100000 in
theorem c167_49_v : ValidC PPk c167_49 := ct_ok fpk ⟨noF_ok, (mWst_ok 9)⟩ (d := 0) (ext := []) (pts := c167_49_pts) (env := c167_49_e) rfl (fun _ h => (by cases h)) ext_nil (fun q h => (by cases h)) (enF c167_49_k) (fun _ h => (by cases h))

noncomputable def c166_23 : Ct := (166, 3, (21, (zt58 []), [((.negSucc 68), [(0, (.ofNat 1)), (1, (.ofNat 1))])], [qvR 0, qvK (.ofNat 8)], zh141, [(2, [1], []), (1, [1], []), (29, [6], [(sL 1), ((.ofNat 2), []), (sL 18), (sL 19), (sL 20)])]),
  [((22, [qtN 1 1 69, qtN 19 0 0, qtN 21 2 70], [((.negSucc 69), [(0, (.ofNat 1)), (1, (.ofNat 1))]), ((.negSucc 0), [(0, (.negSucc 0)), (1, (.negSucc 0)), (21, (.ofNat 1))]), ((.negSucc 67), [(0, (.ofNat 1)), (1, (.ofNat 1)), (21, (.negSucc 0))]), ((.negSucc 68), [(0, (.ofNat 1)), (1, (.ofNat 1)), (21, (.negSucc 0))])], [qvK (.ofNat 1)], zh146, [(2, [1], []), (1, [1], []), (29, [6], [(sL 21), ((.ofNat 2), []), (sL 18), ((.ofNat 1), []), ((.ofNat 3), [])])]), 0, 0),
   ((22, [qtN 1 1 69, qtN 19 1 1, qtN 21 1 69], [((.negSucc 69), [(0, (.ofNat 1)), (1, (.ofNat 1))]), ((.negSucc 0), [(1, (.negSucc 0)), (21, (.ofNat 1))]), ((.ofNat 0), [(1, (.negSucc 0)), (21, (.ofNat 1))]), ((.negSucc 69), [(0, (.ofNat 1)), (1, (.ofNat 1)), (21, (.negSucc 0))]), ((.negSucc 68), [(0, (.ofNat 1)), (1, (.ofNat 1)), (21, (.negSucc 0))]), ((.ofNat 0), [(0, (.negSucc 0)), (1, (.negSucc 0)), (21, (.ofNat 1))])], [qvK (.ofNat 0)], zh143, [(2, [1], []), (1, [1], []), (29, [6], [(sL 21), ((.ofNat 2), []), (sL 18), (sL 19), ((.ofNat 3), [])])]), 0, 0)])
noncomputable def c166_23_e : List Ct := [c162_28, c162_29, c163_0, c167_49]
noncomputable def c166_23_pts : List PE := []
set_option maxRecDepth 100000 in
theorem c166_23_k : enCtF c166_23 c166_23_e (pkP (c166_23_pts ++ []) []) (none) ((hOr (hWpop 22 6) (hWz 42 6)), noM, 0, 4398050705408, 21) 3000 = true := by decide +kernel
set_option maxRecDepth 100000 in
theorem c166_23_v : ValidC PPk c166_23 := ct_ok fpk ⟨(hOr_ok (hWpop_ok 22 6) (hWz_ok 42 6)), noM_ok⟩ (d := 2) (ext := []) (pts := c166_23_pts) (env := c166_23_e) rfl (List.forall_mem_cons.mpr ⟨⟨c162_28_v, Nat.le_of_ble_eq_true rfl⟩, List.forall_mem_cons.mpr ⟨⟨c162_29_v, Nat.le_of_ble_eq_true rfl⟩, List.forall_mem_cons.mpr ⟨⟨c163_0_v, Nat.le_of_ble_eq_true rfl⟩, List.forall_mem_cons.mpr ⟨⟨c167_49_v, Nat.le_of_ble_eq_true rfl⟩, fun _ h => (by cases h)⟩⟩⟩⟩) ext_nil (fun q h => (by cases h)) (enF c166_23_k) (fun _ h => (by cases h))

noncomputable def c167_50 : Ct := (167, 1, (23, (zt65 []), [], [qvR 0, qvK (.ofNat 10)], zh144, [(2, [1], []), (1, [1], []), (29, [6], [(sL 1), ((.ofNat 2), []), (sL 20), (sL 21), (sL 22)])]),
  [((23, [], [], [], zh145, [(2, [1], []), (1, [1], []), (29, [6], [((.ofNat 1), [(1, (.ofNat 1))]), ((.ofNat 2), []), (sL 20), ((.ofNat 1), []), ((.ofNat 3), [])])]), 0, 0)])
noncomputable def c167_50_e : List Ct := []
noncomputable def c167_50_pts : List PE := []
set_option maxRecDepth 100000 in
theorem c167_50_k : enCtF c167_50 c167_50_e (pkP (c167_50_pts ++ []) []) (none) (noF, (mWst 9), 0, 512, 23) 3000 = true := by decide +kernel
set_option maxRecDepth 100000 in
theorem c167_50_v : ValidC PPk c167_50 := ct_ok fpk ⟨noF_ok, (mWst_ok 9)⟩ (d := 0) (ext := []) (pts := c167_50_pts) (env := c167_50_e) rfl (fun _ h => (by cases h)) ext_nil (fun q h => (by cases h)) (enF c167_50_k) (fun _ h => (by cases h))

noncomputable def c166_24 : Ct := (166, 3, (21, (zt58 []), [((.negSucc 68), [(0, (.ofNat 1)), (1, (.ofNat 1))])], [qvR 0, qvK (.ofNat 10)], zh141, [(2, [1], []), (1, [1], []), (29, [6], [(sL 1), ((.ofNat 2), []), (sL 18), (sL 19), (sL 20)])]),
  [((22, [qtN 1 1 69, qtN 19 0 0, qtN 21 2 70], [((.negSucc 69), [(0, (.ofNat 1)), (1, (.ofNat 1))]), ((.negSucc 0), [(0, (.negSucc 0)), (1, (.negSucc 0)), (21, (.ofNat 1))]), ((.negSucc 67), [(0, (.ofNat 1)), (1, (.ofNat 1)), (21, (.negSucc 0))]), ((.negSucc 68), [(0, (.ofNat 1)), (1, (.ofNat 1)), (21, (.negSucc 0))])], [qvK (.ofNat 1)], zh146, [(2, [1], []), (1, [1], []), (29, [6], [(sL 21), ((.ofNat 2), []), (sL 18), ((.ofNat 1), []), ((.ofNat 3), [])])]), 0, 0),
   ((22, [qtN 1 1 69, qtN 19 1 1, qtN 21 1 69], [((.negSucc 69), [(0, (.ofNat 1)), (1, (.ofNat 1))]), ((.negSucc 0), [(1, (.negSucc 0)), (21, (.ofNat 1))]), ((.ofNat 0), [(1, (.negSucc 0)), (21, (.ofNat 1))]), ((.negSucc 69), [(0, (.ofNat 1)), (1, (.ofNat 1)), (21, (.negSucc 0))]), ((.negSucc 68), [(0, (.ofNat 1)), (1, (.ofNat 1)), (21, (.negSucc 0))]), ((.ofNat 0), [(0, (.negSucc 0)), (1, (.negSucc 0)), (21, (.ofNat 1))])], [qvK (.ofNat 0)], zh143, [(2, [1], []), (1, [1], []), (29, [6], [(sL 21), ((.ofNat 2), []), (sL 18), (sL 19), ((.ofNat 3), [])])]), 0, 0)])
noncomputable def c166_24_e : List Ct := [c162_28, c162_29, c163_0, c167_50]
noncomputable def c166_24_pts : List PE := []
set_option maxRecDepth 100000 in
theorem c166_24_k : enCtF c166_24 c166_24_e (pkP (c166_24_pts ++ []) []) (none) ((hOr (hWpop 22 6) (hWz 42 6)), noM, 0, 4398050705408, 21) 3000 = true := by decide +kernel
set_option maxRecDepth 100000 in
theorem c166_24_v : ValidC PPk c166_24 := ct_ok fpk ⟨(hOr_ok (hWpop_ok 22 6) (hWz_ok 42 6)), noM_ok⟩ (d := 2) (ext := []) (pts := c166_24_pts) (env := c166_24_e) rfl (List.forall_mem_cons.mpr ⟨⟨c162_28_v, Nat.le_of_ble_eq_true rfl⟩, List.forall_mem_cons.mpr ⟨⟨c162_29_v, Nat.le_of_ble_eq_true rfl⟩, List.forall_mem_cons.mpr ⟨⟨c163_0_v, Nat.le_of_ble_eq_true rfl⟩, List.forall_mem_cons.mpr ⟨⟨c167_50_v, Nat.le_of_ble_eq_true rfl⟩, fun _ h => (by cases h)⟩⟩⟩⟩) ext_nil (fun q h => (by cases h)) (enF c166_24_k) (fun _ h => (by cases h))

noncomputable def c167_51 : Ct := (167, 1, (23, (zt65 []), [], [qvR 0, qvK (.ofNat 9)], zh144, [(2, [1], []), (1, [1], []), (29, [6], [(sL 1), ((.ofNat 2), []), (sL 20), (sL 21), (sL 22)])]),
  [((23, [], [], [], zh145, [(2, [1], []), (1, [1], []), (29, [6], [((.ofNat 1), [(1, (.ofNat 1))]), ((.ofNat 2), []), (sL 20), ((.ofNat 1), []), ((.ofNat 3), [])])]), 0, 0)])
noncomputable def c167_51_e : List Ct := []
noncomputable def c167_51_pts : List PE := []
set_option maxRecDepth 100000 in
theorem c167_51_k : enCtF c167_51 c167_51_e (pkP (c167_51_pts ++ []) []) (none) (noF, (mWst 9), 0, 512, 23) 3000 = true := by decide +kernel
set_option maxRecDepth 100000 in
theorem c167_51_v : ValidC PPk c167_51 := ct_ok fpk ⟨noF_ok, (mWst_ok 9)⟩ (d := 0) (ext := []) (pts := c167_51_pts) (env := c167_51_e) rfl (fun _ h => (by cases h)) ext_nil (fun q h => (by cases h)) (enF c167_51_k) (fun _ h => (by cases h))

noncomputable def c166_25 : Ct := (166, 3, (21, (zt58 []), [((.negSucc 68), [(0, (.ofNat 1)), (1, (.ofNat 1))])], [qvR 0, qvK (.ofNat 9)], zh141, [(2, [1], []), (1, [1], []), (29, [6], [(sL 1), ((.ofNat 2), []), (sL 18), (sL 19), (sL 20)])]),
  [((22, [qtN 1 1 69, qtN 19 0 0, qtN 21 2 70], [((.negSucc 69), [(0, (.ofNat 1)), (1, (.ofNat 1))]), ((.negSucc 0), [(0, (.negSucc 0)), (1, (.negSucc 0)), (21, (.ofNat 1))]), ((.negSucc 67), [(0, (.ofNat 1)), (1, (.ofNat 1)), (21, (.negSucc 0))]), ((.negSucc 68), [(0, (.ofNat 1)), (1, (.ofNat 1)), (21, (.negSucc 0))])], [qvK (.ofNat 1)], zh146, [(2, [1], []), (1, [1], []), (29, [6], [(sL 21), ((.ofNat 2), []), (sL 18), ((.ofNat 1), []), ((.ofNat 3), [])])]), 0, 0),
   ((22, [qtN 1 1 69, qtN 19 1 1, qtN 21 1 69], [((.negSucc 69), [(0, (.ofNat 1)), (1, (.ofNat 1))]), ((.negSucc 0), [(1, (.negSucc 0)), (21, (.ofNat 1))]), ((.ofNat 0), [(1, (.negSucc 0)), (21, (.ofNat 1))]), ((.negSucc 69), [(0, (.ofNat 1)), (1, (.ofNat 1)), (21, (.negSucc 0))]), ((.negSucc 68), [(0, (.ofNat 1)), (1, (.ofNat 1)), (21, (.negSucc 0))]), ((.ofNat 0), [(0, (.negSucc 0)), (1, (.negSucc 0)), (21, (.ofNat 1))])], [qvK (.ofNat 0)], zh143, [(2, [1], []), (1, [1], []), (29, [6], [(sL 21), ((.ofNat 2), []), (sL 18), (sL 19), ((.ofNat 3), [])])]), 0, 0)])
noncomputable def c166_25_e : List Ct := [c162_28, c162_29, c163_0, c167_51]
noncomputable def c166_25_pts : List PE := []
set_option maxRecDepth 100000 in
theorem c166_25_k : enCtF c166_25 c166_25_e (pkP (c166_25_pts ++ []) []) (none) ((hOr (hWpop 22 6) (hWz 42 6)), noM, 0, 4398050705408, 21) 3000 = true := by decide +kernel
set_option maxRecDepth 100000 in
theorem c166_25_v : ValidC PPk c166_25 := ct_ok fpk ⟨(hOr_ok (hWpop_ok 22 6) (hWz_ok 42 6)), noM_ok⟩ (d := 2) (ext := []) (pts := c166_25_pts) (env := c166_25_e) rfl (List.forall_mem_cons.mpr ⟨⟨c162_28_v, Nat.le_of_ble_eq_true rfl⟩, List.forall_mem_cons.mpr ⟨⟨c162_29_v, Nat.le_of_ble_eq_true rfl⟩, List.forall_mem_cons.mpr ⟨⟨c163_0_v, Nat.le_of_ble_eq_true rfl⟩, List.forall_mem_cons.mpr ⟨⟨c167_51_v, Nat.le_of_ble_eq_true rfl⟩, fun _ h => (by cases h)⟩⟩⟩⟩) ext_nil (fun q h => (by cases h)) (enF c166_25_k) (fun _ h => (by cases h))

noncomputable def c167_52 : Ct := (167, 1, (23, (zt66 []), [], [qvR 0, qvK (.ofNat 12)], zh144, [(2, [1], []), (1, [1], []), (29, [6], [(sL 1), ((.ofNat 2), []), (sL 20), (sL 21), (sL 22)])]),
  [((23, [], [], [], zh145, [(2, [1], []), (1, [1], []), (29, [6], [((.ofNat 1), [(1, (.ofNat 1))]), ((.ofNat 2), []), (sL 20), (sL 21), ((.ofNat 1), [])])]), 0, 0)])
noncomputable def c167_52_e : List Ct := []
noncomputable def c167_52_pts : List PE := []
set_option maxRecDepth 100000 in
theorem c167_52_k : enCtF c167_52 c167_52_e (pkP (c167_52_pts ++ []) []) (none) (noF, (mWst 9), 0, 512, 23) 3000 = true := by decide +kernel
set_option maxRecDepth 100000 in
theorem c167_52_v : ValidC PPk c167_52 := ct_ok fpk ⟨noF_ok, (mWst_ok 9)⟩ (d := 0) (ext := []) (pts := c167_52_pts) (env := c167_52_e) rfl (fun _ h => (by cases h)) ext_nil (fun q h => (by cases h)) (enF c167_52_k) (fun _ h => (by cases h))

noncomputable def c166_26 : Ct := (166, 3, (21, (zt58 []), [((.negSucc 68), [(0, (.ofNat 1)), (1, (.ofNat 1))])], [qvR 0, qvK (.ofNat 12)], zh141, [(2, [1], []), (1, [1], []), (29, [6], [(sL 1), ((.ofNat 2), []), (sL 18), (sL 19), (sL 20)])]),
  [((22, [qtN 1 1 69, qtN 21 2 70], [((.negSucc 69), [(0, (.ofNat 1)), (1, (.ofNat 1))]), ((.negSucc 1), [(1, (.negSucc 0)), (21, (.ofNat 1))]), ((.negSucc 0), [(1, (.negSucc 0)), (21, (.ofNat 1))]), ((.negSucc 68), [(0, (.ofNat 1)), (1, (.ofNat 1)), (21, (.negSucc 0))]), ((.negSucc 67), [(0, (.ofNat 1)), (1, (.ofNat 1)), (21, (.negSucc 0))]), ((.negSucc 0), [(0, (.negSucc 0)), (1, (.negSucc 0)), (21, (.ofNat 1))])], [qvK (.ofNat 1)], zh146, [(2, [1], []), (1, [1], []), (29, [6], [(sL 21), ((.ofNat 2), []), (sL 18), ((.ofNat 0), []), ((.ofNat 1), [])])]), 0, 0)])
noncomputable def c166_26_e : List Ct := [c162_4, c163_0, c167_52]
noncomputable def c166_26_pts : List PE := []
set_option maxRecDepth 100000 in
theorem c166_26_k : enCtF c166_26 c166_26_e (pkP (c166_26_pts ++ []) []) (none) ((hOr (hWpop 22 6) (hWz 42 6)), noM, 0, 4398050705408, 21) 3000 = true := by decide +kernel
set_option maxRecDepth 100000 in
theorem c166_26_v : ValidC PPk c166_26 := ct_ok fpk ⟨(hOr_ok (hWpop_ok 22 6) (hWz_ok 42 6)), noM_ok⟩ (d := 2) (ext := []) (pts := c166_26_pts) (env := c166_26_e) rfl (List.forall_mem_cons.mpr ⟨⟨c162_4_v, Nat.le_of_ble_eq_true rfl⟩, List.forall_mem_cons.mpr ⟨⟨c163_0_v, Nat.le_of_ble_eq_true rfl⟩, List.forall_mem_cons.mpr ⟨⟨c167_52_v, Nat.le_of_ble_eq_true rfl⟩, fun _ h => (by cases h)⟩⟩⟩) ext_nil (fun q h => (by cases h)) (enF c166_26_k) (fun _ h => (by cases h))

noncomputable def c162_30 : Ct := (162, 2, (21, (zt58 []), [((.negSucc 68), [(0, (.ofNat 1)), (1, (.ofNat 1))])], [qvR 0, qvK (.ofNat 2)], zh141, [(2, [1], []), (1, [1], []), (29, [6], [(sL 1), ((.ofNat 3), []), (sL 18), (sL 19), (sL 20)])]),
  [((23, [qtN 21 1 69, qtN 22 0 1], [((.ofNat 0), [(0, (.negSucc 0)), (1, (.negSucc 0)), (21, (.ofNat 1))]), ((.negSucc 68), [(0, (.ofNat 1)), (1, (.ofNat 1)), (21, (.negSucc 0))]), ((.negSucc 69), [(0, (.ofNat 1)), (1, (.ofNat 1)), (21, (.negSucc 0))]), ((.negSucc 69), [(0, (.ofNat 1)), (1, (.ofNat 1))]), ((.ofNat 0), [(1, (.negSucc 0)), (21, (.ofNat 1))]), ((.negSucc 0), [(1, (.negSucc 0)), (21, (.ofNat 1))])], [], zh143, [(2, [1], []), (1, [1], []), (29, [6], [(sL 21), ((.ofNat 3), []), (sL 18), ((.ofNat 0), []), (sL 22)])]), 0, 0)])
noncomputable def c162_30_e : List Ct := [c163_0, c164_0]
noncomputable def c162_30_p0 : PE := (0, [0, 1], (24, (zt59 []), [((.negSucc 68), [(0, (.ofNat 1)), (1, (.ofNat 1))]), ((.negSucc 69), [(0, (.ofNat 1)), (1, (.ofNat 1))]), ((.ofNat 0), [(0, (.negSucc 0)), (1, (.negSucc 0)), (21, (.ofNat 1))]), ((.negSucc 68), [(0, (.ofNat 1)), (1, (.ofNat 1)), (21, (.negSucc 0))]), ((.negSucc 69), [(0, (.ofNat 1)), (1, (.ofNat 1)), (21, (.negSucc 0))]), ((.ofNat 0), [(1, (.negSucc 0)), (21, (.ofNat 1))]), ((.negSucc 0), [(1, (.negSucc 0)), (21, (.ofNat 1))])], [qvR 0, qvK (.ofNat 2)], zh143, [(2, [1], []), (1, [1], []), (29, [6], [(sL 21), ((.ofNat 3), []), (sL 18), (sL 22), (sL 23)])]), symsL 21 0, some ((.ofNat 139), [(0, (.negSucc 0)), (1, (.negSucc 0)), (21, (.ofNat 1))]), 0, 0)
noncomputable def c162_30_pts : List PE := [c162_30_p0]
set_option maxRecDepth 100000 in
theorem c162_30_k : enCtF c162_30 c162_30_e (pkP (c162_30_pts ++ []) [0]) (none) ((hOr (hWpop 7 6) (hWz 52 6)), noM, 1, 4503599627370624, 21) 3000 = true := by decide +kernel
set_option maxRecDepth 100000 in
theorem c162_30_k0 : ptCtF c162_30 c162_30_e (pkP (c162_30_pts ++ []) [0]) ((hOr (hWpop 7 6) (hWz 52 6)), noM, 1, 4503599627370624, 21) 3000 c162_30_p0 = true := by decide +kernel
set_option maxRecDepth 100000 in
theorem c162_30_v : ValidC PPk c162_30 := ct_ok fpk ⟨(hOr_ok (hWpop_ok 7 6) (hWz_ok 52 6)), noM_ok⟩ (d := 1) (ext := []) (pts := c162_30_pts) (env := c162_30_e) rfl (List.forall_mem_cons.mpr ⟨⟨c163_0_v, Nat.le_of_ble_eq_true rfl⟩, List.forall_mem_cons.mpr ⟨⟨c164_0_v, Nat.le_of_ble_eq_true rfl⟩, fun _ h => (by cases h)⟩⟩) ext_nil (fun q h => (by cases h)) (enF c162_30_k) (List.forall_mem_cons.mpr ⟨⟨_, ptF c162_30_k0⟩, fun _ h => (by cases h)⟩)

noncomputable def c167_53 : Ct := (167, 1, (23, (zt62 []), [], [qvR 0, qvK (.ofNat 11)], zh144, [(2, [1], []), (1, [1], []), (29, [6], [(sL 1), ((.ofNat 3), []), (sL 20), (sL 21), (sL 22)])]),
  [((23, [], [], [], zh145, [(2, [1], []), (1, [1], []), (29, [6], [((.ofNat 1), [(1, (.ofNat 1))]), ((.ofNat 3), []), (sL 20), (sL 21), ((.ofNat 2), [])])]), 0, 0)])
noncomputable def c167_53_e : List Ct := []
noncomputable def c167_53_pts : List PE := []
set_option maxRecDepth 100000 in
theorem c167_53_k : enCtF c167_53 c167_53_e (pkP (c167_53_pts ++ []) []) (none) (noF, (mWst 9), 0, 512, 23) 3000 = true := by decide +kernel
set_option maxRecDepth 100000 in
theorem c167_53_v : ValidC PPk c167_53 := ct_ok fpk ⟨noF_ok, (mWst_ok 9)⟩ (d := 0) (ext := []) (pts := c167_53_pts) (env := c167_53_e) rfl (fun _ h => (by cases h)) ext_nil (fun q h => (by cases h)) (enF c167_53_k) (fun _ h => (by cases h))

noncomputable def c166_27 : Ct := (166, 3, (21, (zt58 []), [((.negSucc 68), [(0, (.ofNat 1)), (1, (.ofNat 1))])], [qvR 0, qvK (.ofNat 11)], zh141, [(2, [1], []), (1, [1], []), (29, [6], [(sL 1), ((.ofNat 3), []), (sL 18), (sL 19), (sL 20)])]),
  [((22, [qtN 1 1 69, qtN 21 2 70], [((.negSucc 69), [(0, (.ofNat 1)), (1, (.ofNat 1))]), ((.negSucc 1), [(1, (.negSucc 0)), (21, (.ofNat 1))]), ((.negSucc 0), [(1, (.negSucc 0)), (21, (.ofNat 1))]), ((.negSucc 68), [(0, (.ofNat 1)), (1, (.ofNat 1)), (21, (.negSucc 0))]), ((.negSucc 67), [(0, (.ofNat 1)), (1, (.ofNat 1)), (21, (.negSucc 0))]), ((.negSucc 0), [(0, (.negSucc 0)), (1, (.negSucc 0)), (21, (.ofNat 1))])], [qvK (.ofNat 1)], zh146, [(2, [1], []), (1, [1], []), (29, [6], [(sL 21), ((.ofNat 3), []), (sL 18), ((.ofNat 0), []), ((.ofNat 2), [])])]), 0, 0)])
noncomputable def c166_27_e : List Ct := [c162_30, c163_0, c167_53]
noncomputable def c166_27_pts : List PE := []
set_option maxRecDepth 100000 in
theorem c166_27_k : enCtF c166_27 c166_27_e (pkP (c166_27_pts ++ []) []) (none) ((hOr (hWpop 22 6) (hWz 42 6)), noM, 0, 4398050705408, 21) 3000 = true := by decide +kernel
set_option maxRecDepth 100000 in
theorem c166_27_v : ValidC PPk c166_27 := ct_ok fpk ⟨(hOr_ok (hWpop_ok 22 6) (hWz_ok 42 6)), noM_ok⟩ (d := 2) (ext := []) (pts := c166_27_pts) (env := c166_27_e) rfl (List.forall_mem_cons.mpr ⟨⟨c162_30_v, Nat.le_of_ble_eq_true rfl⟩, List.forall_mem_cons.mpr ⟨⟨c163_0_v, Nat.le_of_ble_eq_true rfl⟩, List.forall_mem_cons.mpr ⟨⟨c167_53_v, Nat.le_of_ble_eq_true rfl⟩, fun _ h => (by cases h)⟩⟩⟩) ext_nil (fun q h => (by cases h)) (enF c166_27_k) (fun _ h => (by cases h))

noncomputable def c162_31 : Ct := (162, 2, (21, (zt58 []), [((.negSucc 68), [(0, (.ofNat 1)), (1, (.ofNat 1))])], [qvR 0, qvK (.ofNat 5)], zh141, [(2, [1], []), (1, [1], []), (29, [6], [(sL 1), ((.ofNat 3), []), (sL 18), (sL 19), (sL 20)])]),
  [((23, [qtN 21 1 69, qtN 22 0 4], [((.ofNat 0), [(0, (.negSucc 0)), (1, (.negSucc 0)), (21, (.ofNat 1))]), ((.negSucc 68), [(0, (.ofNat 1)), (1, (.ofNat 1)), (21, (.negSucc 0))]), ((.negSucc 69), [(0, (.ofNat 1)), (1, (.ofNat 1)), (21, (.negSucc 0))]), ((.negSucc 69), [(0, (.ofNat 1)), (1, (.ofNat 1))]), ((.ofNat 0), [(1, (.negSucc 0)), (21, (.ofNat 1))]), ((.negSucc 0), [(1, (.negSucc 0)), (21, (.ofNat 1))])], [], zh143, [(2, [1], []), (1, [1], []), (29, [6], [(sL 21), ((.ofNat 3), []), (sL 18), (sL 19), (sL 22)])]), 0, 0)])
noncomputable def c162_31_e : List Ct := [c163_0, c164_0]
noncomputable def c162_31_p0 : PE := (0, [0, 1], (23, (zt61 []), [((.negSucc 68), [(0, (.ofNat 1)), (1, (.ofNat 1))]), ((.negSucc 69), [(0, (.ofNat 1)), (1, (.ofNat 1))]), ((.ofNat 0), [(0, (.negSucc 0)), (1, (.negSucc 0)), (21, (.ofNat 1))]), ((.negSucc 68), [(0, (.ofNat 1)), (1, (.ofNat 1)), (21, (.negSucc 0))]), ((.negSucc 69), [(0, (.ofNat 1)), (1, (.ofNat 1)), (21, (.negSucc 0))]), ((.ofNat 0), [(1, (.negSucc 0)), (21, (.ofNat 1))]), ((.negSucc 0), [(1, (.negSucc 0)), (21, (.ofNat 1))])], [qvR 0, qvK (.ofNat 5)], zh143, [(2, [1], []), (1, [1], []), (29, [6], [(sL 21), ((.ofNat 3), []), (sL 18), (sL 19), (sL 22)])]), symsL 21 0, some ((.ofNat 139), [(0, (.negSucc 0)), (1, (.negSucc 0)), (21, (.ofNat 1))]), 0, 0)
noncomputable def c162_31_pts : List PE := [c162_31_p0]
set_option maxRecDepth 100000 in
theorem c162_31_k : enCtF c162_31 c162_31_e (pkP (c162_31_pts ++ []) [0]) (none) ((hOr (hWpop 7 6) (hWz 52 6)), noM, 1, 4503599627370624, 21) 3000 = true := by decide +kernel
set_option maxRecDepth 100000 in
theorem c162_31_k0 : ptCtF c162_31 c162_31_e (pkP (c162_31_pts ++ []) [0]) ((hOr (hWpop 7 6) (hWz 52 6)), noM, 1, 4503599627370624, 21) 3000 c162_31_p0 = true := by decide +kernel
set_option maxRecDepth 100000 in
theorem c162_31_v : ValidC PPk c162_31 := ct_ok fpk ⟨(hOr_ok (hWpop_ok 7 6) (hWz_ok 52 6)), noM_ok⟩ (d := 1) (ext := []) (pts := c162_31_pts) (env := c162_31_e) rfl (List.forall_mem_cons.mpr ⟨⟨c163_0_v, Nat.le_of_ble_eq_true rfl⟩, List.forall_mem_cons.mpr ⟨⟨c164_0_v, Nat.le_of_ble_eq_true rfl⟩, fun _ h => (by cases h)⟩⟩) ext_nil (fun q h => (by cases h)) (enF c162_31_k) (List.forall_mem_cons.mpr ⟨⟨_, ptF c162_31_k0⟩, fun _ h => (by cases h)⟩)

noncomputable def c167_54 : Ct := (167, 1, (23, (zt63 []), [], [qvR 0, qvK (.ofNat 4)], zh144, [(2, [1], []), (1, [1], []), (29, [6], [(sL 1), ((.ofNat 3), []), (sL 20), (sL 21), (sL 22)])]),
  [((23, [], [], [], zh145, [(2, [1], []), (1, [1], []), (29, [6], [((.ofNat 1), [(1, (.ofNat 1))]), ((.ofNat 3), []), (sL 20), (sL 21), ((.ofNat 5), [])])]), 0, 0)])
noncomputable def c167_54_e : List Ct := []
noncomputable def c167_54_pts : List PE := []
set_option maxRecDepth 100000 in
theorem c167_54_k : enCtF c167_54 c167_54_e (pkP (c167_54_pts ++ []) []) (none) (noF, (mWst 9), 0, 512, 23) 3000 = true := by decide +kernel
set_option maxRecDepth 100000 in
theorem c167_54_v : ValidC PPk c167_54 := ct_ok fpk ⟨noF_ok, (mWst_ok 9)⟩ (d := 0) (ext := []) (pts := c167_54_pts) (env := c167_54_e) rfl (fun _ h => (by cases h)) ext_nil (fun q h => (by cases h)) (enF c167_54_k) (fun _ h => (by cases h))

noncomputable def c166_28 : Ct := (166, 3, (21, (zt58 []), [((.negSucc 68), [(0, (.ofNat 1)), (1, (.ofNat 1))])], [qvR 0, qvK (.ofNat 4)], zh141, [(2, [1], []), (1, [1], []), (29, [6], [(sL 1), ((.ofNat 3), []), (sL 18), (sL 19), (sL 20)])]),
  [((22, [qtN 1 1 69, qtN 21 2 70], [((.negSucc 69), [(0, (.ofNat 1)), (1, (.ofNat 1))]), ((.negSucc 1), [(1, (.negSucc 0)), (21, (.ofNat 1))]), ((.negSucc 0), [(1, (.negSucc 0)), (21, (.ofNat 1))]), ((.negSucc 68), [(0, (.ofNat 1)), (1, (.ofNat 1)), (21, (.negSucc 0))]), ((.negSucc 67), [(0, (.ofNat 1)), (1, (.ofNat 1)), (21, (.negSucc 0))]), ((.negSucc 0), [(0, (.negSucc 0)), (1, (.negSucc 0)), (21, (.ofNat 1))])], [qvK (.ofNat 1)], zh146, [(2, [1], []), (1, [1], []), (29, [6], [(sL 21), ((.ofNat 3), []), (sL 18), (sL 19), ((.ofNat 5), [])])]), 0, 0)])
noncomputable def c166_28_e : List Ct := [c162_31, c163_0, c167_54]
noncomputable def c166_28_pts : List PE := []
set_option maxRecDepth 100000 in
theorem c166_28_k : enCtF c166_28 c166_28_e (pkP (c166_28_pts ++ []) []) (none) ((hOr (hWpop 22 6) (hWz 42 6)), noM, 0, 4398050705408, 21) 3000 = true := by decide +kernel
set_option maxRecDepth 100000 in
theorem c166_28_v : ValidC PPk c166_28 := ct_ok fpk ⟨(hOr_ok (hWpop_ok 22 6) (hWz_ok 42 6)), noM_ok⟩ (d := 2) (ext := []) (pts := c166_28_pts) (env := c166_28_e) rfl (List.forall_mem_cons.mpr ⟨⟨c162_31_v, Nat.le_of_ble_eq_true rfl⟩, List.forall_mem_cons.mpr ⟨⟨c163_0_v, Nat.le_of_ble_eq_true rfl⟩, List.forall_mem_cons.mpr ⟨⟨c167_54_v, Nat.le_of_ble_eq_true rfl⟩, fun _ h => (by cases h)⟩⟩⟩) ext_nil (fun q h => (by cases h)) (enF c166_28_k) (fun _ h => (by cases h))

noncomputable def c162_32 : Ct := (162, 2, (21, (zt58 []), [((.negSucc 68), [(0, (.ofNat 1)), (1, (.ofNat 1))])], [qvR 0, qvK (.ofNat 4)], zh141, [(2, [1], []), (1, [1], []), (29, [6], [(sL 1), ((.ofNat 3), []), (sL 18), (sL 19), (sL 20)])]),
  [((23, [qtN 21 1 69, qtN 22 0 3], [((.ofNat 0), [(0, (.negSucc 0)), (1, (.negSucc 0)), (21, (.ofNat 1))]), ((.negSucc 68), [(0, (.ofNat 1)), (1, (.ofNat 1)), (21, (.negSucc 0))]), ((.negSucc 69), [(0, (.ofNat 1)), (1, (.ofNat 1)), (21, (.negSucc 0))]), ((.negSucc 69), [(0, (.ofNat 1)), (1, (.ofNat 1))]), ((.ofNat 0), [(1, (.negSucc 0)), (21, (.ofNat 1))]), ((.negSucc 0), [(1, (.negSucc 0)), (21, (.ofNat 1))])], [], zh143, [(2, [1], []), (1, [1], []), (29, [6], [(sL 21), ((.ofNat 3), []), (sL 18), (sL 19), (sL 22)])]), 0, 0)])
noncomputable def c162_32_e : List Ct := [c163_0, c164_0]
noncomputable def c162_32_p0 : PE := (0, [0, 1], (23, (zt61 []), [((.negSucc 68), [(0, (.ofNat 1)), (1, (.ofNat 1))]), ((.negSucc 69), [(0, (.ofNat 1)), (1, (.ofNat 1))]), ((.ofNat 0), [(0, (.negSucc 0)), (1, (.negSucc 0)), (21, (.ofNat 1))]), ((.negSucc 68), [(0, (.ofNat 1)), (1, (.ofNat 1)), (21, (.negSucc 0))]), ((.negSucc 69), [(0, (.ofNat 1)), (1, (.ofNat 1)), (21, (.negSucc 0))]), ((.ofNat 0), [(1, (.negSucc 0)), (21, (.ofNat 1))]), ((.negSucc 0), [(1, (.negSucc 0)), (21, (.ofNat 1))])], [qvR 0, qvK (.ofNat 4)], zh143, [(2, [1], []), (1, [1], []), (29, [6], [(sL 21), ((.ofNat 3), []), (sL 18), (sL 19), (sL 22)])]), symsL 21 0, some ((.ofNat 139), [(0, (.negSucc 0)), (1, (.negSucc 0)), (21, (.ofNat 1))]), 0, 0)
noncomputable def c162_32_pts : List PE := [c162_32_p0]
set_option maxRecDepth 100000 in
theorem c162_32_k : enCtF c162_32 c162_32_e (pkP (c162_32_pts ++ []) [0]) (none) ((hOr (hWpop 7 6) (hWz 52 6)), noM, 1, 4503599627370624, 21) 3000 = true := by decide +kernel
set_option maxRecDepth 100000 in
theorem c162_32_k0 : ptCtF c162_32 c162_32_e (pkP (c162_32_pts ++ []) [0]) ((hOr (hWpop 7 6) (hWz 52 6)), noM, 1, 4503599627370624, 21) 3000 c162_32_p0 = true := by decide +kernel
set_option maxRecDepth 100000 in
theorem c162_32_v : ValidC PPk c162_32 := ct_ok fpk ⟨(hOr_ok (hWpop_ok 7 6) (hWz_ok 52 6)), noM_ok⟩ (d := 1) (ext := []) (pts := c162_32_pts) (env := c162_32_e) rfl (List.forall_mem_cons.mpr ⟨⟨c163_0_v, Nat.le_of_ble_eq_true rfl⟩, List.forall_mem_cons.mpr ⟨⟨c164_0_v, Nat.le_of_ble_eq_true rfl⟩, fun _ h => (by cases h)⟩⟩) ext_nil (fun q h => (by cases h)) (enF c162_32_k) (List.forall_mem_cons.mpr ⟨⟨_, ptF c162_32_k0⟩, fun _ h => (by cases h)⟩)

noncomputable def c167_55 : Ct := (167, 1, (23, (zt64 []), [], [qvR 0, qvK (.ofNat 6)], zh144, [(2, [1], []), (1, [1], []), (29, [6], [(sL 1), ((.ofNat 3), []), (sL 20), (sL 21), (sL 22)])]),
  [((23, [], [], [], zh145, [(2, [1], []), (1, [1], []), (29, [6], [((.ofNat 1), [(1, (.ofNat 1))]), ((.ofNat 3), []), (sL 20), (sL 21), ((.ofNat 4), [])])]), 0, 0)])
noncomputable def c167_55_e : List Ct := []
noncomputable def c167_55_pts : List PE := []
set_option maxRecDepth 100000 in
theorem c167_55_k : enCtF c167_55 c167_55_e (pkP (c167_55_pts ++ []) []) (none) (noF, (mWst 9), 0, 512, 23) 3000 = true := by decide +kernel
set_option maxRecDepth 100000 in
theorem c167_55_v : ValidC PPk c167_55 := ct_ok fpk ⟨noF_ok, (mWst_ok 9)⟩ (d := 0) (ext := []) (pts := c167_55_pts) (env := c167_55_e) rfl (fun _ h => (by cases h)) ext_nil (fun q h => (by cases h)) (enF c167_55_k) (fun _ h => (by cases h))

noncomputable def c166_29 : Ct := (166, 3, (21, (zt58 []), [((.negSucc 68), [(0, (.ofNat 1)), (1, (.ofNat 1))])], [qvR 0, qvK (.ofNat 6)], zh141, [(2, [1], []), (1, [1], []), (29, [6], [(sL 1), ((.ofNat 3), []), (sL 18), (sL 19), (sL 20)])]),
  [((22, [qtN 1 1 69, qtN 21 2 70], [((.negSucc 69), [(0, (.ofNat 1)), (1, (.ofNat 1))]), ((.negSucc 1), [(1, (.negSucc 0)), (21, (.ofNat 1))]), ((.negSucc 0), [(1, (.negSucc 0)), (21, (.ofNat 1))]), ((.negSucc 68), [(0, (.ofNat 1)), (1, (.ofNat 1)), (21, (.negSucc 0))]), ((.negSucc 67), [(0, (.ofNat 1)), (1, (.ofNat 1)), (21, (.negSucc 0))]), ((.negSucc 0), [(0, (.negSucc 0)), (1, (.negSucc 0)), (21, (.ofNat 1))])], [qvK (.ofNat 1)], zh146, [(2, [1], []), (1, [1], []), (29, [6], [(sL 21), ((.ofNat 3), []), (sL 18), (sL 19), ((.ofNat 4), [])])]), 0, 0)])
noncomputable def c166_29_e : List Ct := [c162_32, c163_0, c167_55]
noncomputable def c166_29_pts : List PE := []
set_option maxRecDepth 100000 in
theorem c166_29_k : enCtF c166_29 c166_29_e (pkP (c166_29_pts ++ []) []) (none) ((hOr (hWpop 22 6) (hWz 42 6)), noM, 0, 4398050705408, 21) 3000 = true := by decide +kernel
set_option maxRecDepth 100000 in
theorem c166_29_v : ValidC PPk c166_29 := ct_ok fpk ⟨(hOr_ok (hWpop_ok 22 6) (hWz_ok 42 6)), noM_ok⟩ (d := 2) (ext := []) (pts := c166_29_pts) (env := c166_29_e) rfl (List.forall_mem_cons.mpr ⟨⟨c162_32_v, Nat.le_of_ble_eq_true rfl⟩, List.forall_mem_cons.mpr ⟨⟨c163_0_v, Nat.le_of_ble_eq_true rfl⟩, List.forall_mem_cons.mpr ⟨⟨c167_55_v, Nat.le_of_ble_eq_true rfl⟩, fun _ h => (by cases h)⟩⟩⟩) ext_nil (fun q h => (by cases h)) (enF c166_29_k) (fun _ h => (by cases h))

noncomputable def c167_56 : Ct := (167, 1, (23, (zt64 []), [], [qvR 0, qvK (.ofNat 7)], zh144, [(2, [1], []), (1, [1], []), (29, [6], [(sL 1), ((.ofNat 3), []), (sL 20), (sL 21), (sL 22)])]),
  [((23, [], [], [], zh145, [(2, [1], []), (1, [1], []), (29, [6], [((.ofNat 1), [(1, (.ofNat 1))]), ((.ofNat 3), []), (sL 20), (sL 21), ((.ofNat 4), [])])]), 0, 0)])
noncomputable def c167_56_e : List Ct := []
noncomputable def c167_56_pts : List PE := []
set_option maxRecDepth 100000 in
theorem c167_56_k : enCtF c167_56 c167_56_e (pkP (c167_56_pts ++ []) []) (none) (noF, (mWst 9), 0, 512, 23) 3000 = true := by decide +kernel
set_option maxRecDepth 100000 in
theorem c167_56_v : ValidC PPk c167_56 := ct_ok fpk ⟨noF_ok, (mWst_ok 9)⟩ (d := 0) (ext := []) (pts := c167_56_pts) (env := c167_56_e) rfl (fun _ h => (by cases h)) ext_nil (fun q h => (by cases h)) (enF c167_56_k) (fun _ h => (by cases h))

noncomputable def c166_30 : Ct := (166, 3, (21, (zt58 []), [((.negSucc 68), [(0, (.ofNat 1)), (1, (.ofNat 1))])], [qvR 0, qvK (.ofNat 7)], zh141, [(2, [1], []), (1, [1], []), (29, [6], [(sL 1), ((.ofNat 3), []), (sL 18), (sL 19), (sL 20)])]),
  [((22, [qtN 1 1 69, qtN 21 2 70], [((.negSucc 69), [(0, (.ofNat 1)), (1, (.ofNat 1))]), ((.negSucc 1), [(1, (.negSucc 0)), (21, (.ofNat 1))]), ((.negSucc 0), [(1, (.negSucc 0)), (21, (.ofNat 1))]), ((.negSucc 68), [(0, (.ofNat 1)), (1, (.ofNat 1)), (21, (.negSucc 0))]), ((.negSucc 67), [(0, (.ofNat 1)), (1, (.ofNat 1)), (21, (.negSucc 0))]), ((.negSucc 0), [(0, (.negSucc 0)), (1, (.negSucc 0)), (21, (.ofNat 1))])], [qvK (.ofNat 1)], zh146, [(2, [1], []), (1, [1], []), (29, [6], [(sL 21), ((.ofNat 3), []), (sL 18), (sL 19), ((.ofNat 4), [])])]), 0, 0)])
noncomputable def c166_30_e : List Ct := [c162_32, c163_0, c167_56]
noncomputable def c166_30_pts : List PE := []
set_option maxRecDepth 100000 in
theorem c166_30_k : enCtF c166_30 c166_30_e (pkP (c166_30_pts ++ []) []) (none) ((hOr (hWpop 22 6) (hWz 42 6)), noM, 0, 4398050705408, 21) 3000 = true := by decide +kernel
set_option maxRecDepth 100000 in
theorem c166_30_v : ValidC PPk c166_30 := ct_ok fpk ⟨(hOr_ok (hWpop_ok 22 6) (hWz_ok 42 6)), noM_ok⟩ (d := 2) (ext := []) (pts := c166_30_pts) (env := c166_30_e) rfl (List.forall_mem_cons.mpr ⟨⟨c162_32_v, Nat.le_of_ble_eq_true rfl⟩, List.forall_mem_cons.mpr ⟨⟨c163_0_v, Nat.le_of_ble_eq_true rfl⟩, List.forall_mem_cons.mpr ⟨⟨c167_56_v, Nat.le_of_ble_eq_true rfl⟩, fun _ h => (by cases h)⟩⟩⟩) ext_nil (fun q h => (by cases h)) (enF c166_30_k) (fun _ h => (by cases h))

noncomputable def c167_57 : Ct := (167, 1, (23, (zt63 []), [], [qvR 0, qvK (.ofNat 5)], zh144, [(2, [1], []), (1, [1], []), (29, [6], [(sL 1), ((.ofNat 3), []), (sL 20), (sL 21), (sL 22)])]),
  [((23, [], [], [], zh145, [(2, [1], []), (1, [1], []), (29, [6], [((.ofNat 1), [(1, (.ofNat 1))]), ((.ofNat 3), []), (sL 20), (sL 21), ((.ofNat 5), [])])]), 0, 0)])
noncomputable def c167_57_e : List Ct := []
noncomputable def c167_57_pts : List PE := []
set_option maxRecDepth 100000 in
theorem c167_57_k : enCtF c167_57 c167_57_e (pkP (c167_57_pts ++ []) []) (none) (noF, (mWst 9), 0, 512, 23) 3000 = true := by decide +kernel
set_option maxRecDepth 100000 in
theorem c167_57_v : ValidC PPk c167_57 := ct_ok fpk ⟨noF_ok, (mWst_ok 9)⟩ (d := 0) (ext := []) (pts := c167_57_pts) (env := c167_57_e) rfl (fun _ h => (by cases h)) ext_nil (fun q h => (by cases h)) (enF c167_57_k) (fun _ h => (by cases h))

noncomputable def c166_31 : Ct := (166, 3, (21, (zt58 []), [((.negSucc 68), [(0, (.ofNat 1)), (1, (.ofNat 1))])], [qvR 0, qvK (.ofNat 5)], zh141, [(2, [1], []), (1, [1], []), (29, [6], [(sL 1), ((.ofNat 3), []), (sL 18), (sL 19), (sL 20)])]),
  [((22, [qtN 1 1 69, qtN 21 2 70], [((.negSucc 69), [(0, (.ofNat 1)), (1, (.ofNat 1))]), ((.negSucc 1), [(1, (.negSucc 0)), (21, (.ofNat 1))]), ((.negSucc 0), [(1, (.negSucc 0)), (21, (.ofNat 1))]), ((.negSucc 68), [(0, (.ofNat 1)), (1, (.ofNat 1)), (21, (.negSucc 0))]), ((.negSucc 67), [(0, (.ofNat 1)), (1, (.ofNat 1)), (21, (.negSucc 0))]), ((.negSucc 0), [(0, (.negSucc 0)), (1, (.negSucc 0)), (21, (.ofNat 1))])], [qvK (.ofNat 1)], zh146, [(2, [1], []), (1, [1], []), (29, [6], [(sL 21), ((.ofNat 3), []), (sL 18), (sL 19), ((.ofNat 5), [])])]), 0, 0)])
noncomputable def c166_31_e : List Ct := [c162_31, c163_0, c167_57]
noncomputable def c166_31_pts : List PE := []
set_option maxRecDepth 100000 in
theorem c166_31_k : enCtF c166_31 c166_31_e (pkP (c166_31_pts ++ []) []) (none) ((hOr (hWpop 22 6) (hWz 42 6)), noM, 0, 4398050705408, 21) 3000 = true := by decide +kernel
set_option maxRecDepth 100000 in
theorem c166_31_v : ValidC PPk c166_31 := ct_ok fpk ⟨(hOr_ok (hWpop_ok 22 6) (hWz_ok 42 6)), noM_ok⟩ (d := 2) (ext := []) (pts := c166_31_pts) (env := c166_31_e) rfl (List.forall_mem_cons.mpr ⟨⟨c162_31_v, Nat.le_of_ble_eq_true rfl⟩, List.forall_mem_cons.mpr ⟨⟨c163_0_v, Nat.le_of_ble_eq_true rfl⟩, List.forall_mem_cons.mpr ⟨⟨c167_57_v, Nat.le_of_ble_eq_true rfl⟩, fun _ h => (by cases h)⟩⟩⟩) ext_nil (fun q h => (by cases h)) (enF c166_31_k) (fun _ h => (by cases h))

noncomputable def c162_33 : Ct := (162, 2, (21, (zt58 []), [((.negSucc 68), [(0, (.ofNat 1)), (1, (.ofNat 1))])], [qvR 0, qvK (.ofNat 3)], zh141, [(2, [1], []), (1, [1], []), (29, [6], [(sL 1), ((.ofNat 3), []), (sL 18), (sL 19), (sL 20)])]),
  [((23, [qtN 21 1 69, qtN 22 0 2], [((.ofNat 0), [(0, (.negSucc 0)), (1, (.negSucc 0)), (21, (.ofNat 1))]), ((.negSucc 68), [(0, (.ofNat 1)), (1, (.ofNat 1)), (21, (.negSucc 0))]), ((.negSucc 69), [(0, (.ofNat 1)), (1, (.ofNat 1)), (21, (.negSucc 0))]), ((.negSucc 69), [(0, (.ofNat 1)), (1, (.ofNat 1))]), ((.ofNat 0), [(1, (.negSucc 0)), (21, (.ofNat 1))]), ((.negSucc 0), [(1, (.negSucc 0)), (21, (.ofNat 1))])], [], zh143, [(2, [1], []), (1, [1], []), (29, [6], [(sL 21), ((.ofNat 3), []), (sL 18), ((.ofNat 0), []), (sL 22)])]), 0, 0)])
noncomputable def c162_33_e : List Ct := [c163_0, c164_0]
noncomputable def c162_33_p0 : PE := (0, [0, 1], (24, (zt59 []), [((.negSucc 68), [(0, (.ofNat 1)), (1, (.ofNat 1))]), ((.negSucc 69), [(0, (.ofNat 1)), (1, (.ofNat 1))]), ((.ofNat 0), [(0, (.negSucc 0)), (1, (.negSucc 0)), (21, (.ofNat 1))]), ((.negSucc 68), [(0, (.ofNat 1)), (1, (.ofNat 1)), (21, (.negSucc 0))]), ((.negSucc 69), [(0, (.ofNat 1)), (1, (.ofNat 1)), (21, (.negSucc 0))]), ((.ofNat 0), [(1, (.negSucc 0)), (21, (.ofNat 1))]), ((.negSucc 0), [(1, (.negSucc 0)), (21, (.ofNat 1))])], [qvR 0, qvK (.ofNat 3)], zh143, [(2, [1], []), (1, [1], []), (29, [6], [(sL 21), ((.ofNat 3), []), (sL 18), (sL 22), (sL 23)])]), symsL 21 0, some ((.ofNat 139), [(0, (.negSucc 0)), (1, (.negSucc 0)), (21, (.ofNat 1))]), 0, 0)
noncomputable def c162_33_pts : List PE := [c162_33_p0]
set_option maxRecDepth 100000 in
theorem c162_33_k : enCtF c162_33 c162_33_e (pkP (c162_33_pts ++ []) [0]) (none) ((hOr (hWpop 7 6) (hWz 52 6)), noM, 1, 4503599627370624, 21) 3000 = true := by decide +kernel
set_option maxRecDepth 100000 in
theorem c162_33_k0 : ptCtF c162_33 c162_33_e (pkP (c162_33_pts ++ []) [0]) ((hOr (hWpop 7 6) (hWz 52 6)), noM, 1, 4503599627370624, 21) 3000 c162_33_p0 = true := by decide +kernel
set_option maxRecDepth 100000 in
theorem c162_33_v : ValidC PPk c162_33 := ct_ok fpk ⟨(hOr_ok (hWpop_ok 7 6) (hWz_ok 52 6)), noM_ok⟩ (d := 1) (ext := []) (pts := c162_33_pts) (env := c162_33_e) rfl (List.forall_mem_cons.mpr ⟨⟨c163_0_v, Nat.le_of_ble_eq_true rfl⟩, List.forall_mem_cons.mpr ⟨⟨c164_0_v, Nat.le_of_ble_eq_true rfl⟩, fun _ h => (by cases h)⟩⟩) ext_nil (fun q h => (by cases h)) (enF c162_33_k) (List.forall_mem_cons.mpr ⟨⟨_, ptF c162_33_k0⟩, fun _ h => (by cases h)⟩)

noncomputable def c167_58 : Ct := (167, 1, (23, (zt65 []), [], [qvR 0, qvK (.ofNat 8)], zh144, [(2, [1], []), (1, [1], []), (29, [6], [(sL 1), ((.ofNat 3), []), (sL 20), (sL 21), (sL 22)])]),
  [((23, [], [], [], zh145, [(2, [1], []), (1, [1], []), (29, [6], [((.ofNat 1), [(1, (.ofNat 1))]), ((.ofNat 3), []), (sL 20), ((.ofNat 1), []), ((.ofNat 3), [])])]), 0, 0)])
noncomputable def c167_58_e : List Ct := []
noncomputable def c167_58_pts : List PE := []
set_option maxRecDepth 100000 in
theorem c167_58_k : enCtF c167_58 c167_58_e (pkP (c167_58_pts ++ []) []) (none) (noF, (mWst 9), 0, 512, 23) 3000 = true := by decide +kernel
set_option maxRecDepth 100000 in
theorem c167_58_v : ValidC PPk c167_58 := ct_ok fpk ⟨noF_ok, (mWst_ok 9)⟩ (d := 0) (ext := []) (pts := c167_58_pts) (env := c167_58_e) rfl (fun _ h => (by cases h)) ext_nil (fun q h => (by cases h)) (enF c167_58_k) (fun _ h => (by cases h))

noncomputable def c166_32 : Ct := (166, 3, (21, (zt58 []), [((.negSucc 68), [(0, (.ofNat 1)), (1, (.ofNat 1))])], [qvR 0, qvK (.ofNat 8)], zh141, [(2, [1], []), (1, [1], []), (29, [6], [(sL 1), ((.ofNat 3), []), (sL 18), (sL 19), (sL 20)])]),
  [((22, [qtN 1 1 69, qtN 19 0 0, qtN 21 2 70], [((.negSucc 69), [(0, (.ofNat 1)), (1, (.ofNat 1))]), ((.negSucc 0), [(0, (.negSucc 0)), (1, (.negSucc 0)), (21, (.ofNat 1))]), ((.negSucc 67), [(0, (.ofNat 1)), (1, (.ofNat 1)), (21, (.negSucc 0))]), ((.negSucc 68), [(0, (.ofNat 1)), (1, (.ofNat 1)), (21, (.negSucc 0))])], [qvK (.ofNat 1)], zh146, [(2, [1], []), (1, [1], []), (29, [6], [(sL 21), ((.ofNat 3), []), (sL 18), ((.ofNat 1), []), ((.ofNat 3), [])])]), 0, 0),
   ((22, [qtN 1 1 69, qtN 19 1 1, qtN 21 1 69], [((.negSucc 69), [(0, (.ofNat 1)), (1, (.ofNat 1))]), ((.negSucc 0), [(1, (.negSucc 0)), (21, (.ofNat 1))]), ((.ofNat 0), [(1, (.negSucc 0)), (21, (.ofNat 1))]), ((.negSucc 69), [(0, (.ofNat 1)), (1, (.ofNat 1)), (21, (.negSucc 0))]), ((.negSucc 68), [(0, (.ofNat 1)), (1, (.ofNat 1)), (21, (.negSucc 0))]), ((.ofNat 0), [(0, (.negSucc 0)), (1, (.negSucc 0)), (21, (.ofNat 1))])], [qvK (.ofNat 0)], zh143, [(2, [1], []), (1, [1], []), (29, [6], [(sL 21), ((.ofNat 3), []), (sL 18), (sL 19), ((.ofNat 3), [])])]), 0, 0)])
noncomputable def c166_32_e : List Ct := [c162_32, c162_33, c163_0, c167_58]
noncomputable def c166_32_pts : List PE := []
set_option maxRecDepth 100000 in
theorem c166_32_k : enCtF c166_32 c166_32_e (pkP (c166_32_pts ++ []) []) (none) ((hOr (hWpop 22 6) (hWz 42 6)), noM, 0, 4398050705408, 21) 3000 = true := by decide +kernel
set_option maxRecDepth 100000 in
theorem c166_32_v : ValidC PPk c166_32 := ct_ok fpk ⟨(hOr_ok (hWpop_ok 22 6) (hWz_ok 42 6)), noM_ok⟩ (d := 2) (ext := []) (pts := c166_32_pts) (env := c166_32_e) rfl (List.forall_mem_cons.mpr ⟨⟨c162_32_v, Nat.le_of_ble_eq_true rfl⟩, List.forall_mem_cons.mpr ⟨⟨c162_33_v, Nat.le_of_ble_eq_true rfl⟩, List.forall_mem_cons.mpr ⟨⟨c163_0_v, Nat.le_of_ble_eq_true rfl⟩, List.forall_mem_cons.mpr ⟨⟨c167_58_v, Nat.le_of_ble_eq_true rfl⟩, fun _ h => (by cases h)⟩⟩⟩⟩) ext_nil (fun q h => (by cases h)) (enF c166_32_k) (fun _ h => (by cases h))

noncomputable def c167_59 : Ct := (167, 1, (23, (zt65 []), [], [qvR 0, qvK (.ofNat 10)], zh144, [(2, [1], []), (1, [1], []), (29, [6], [(sL 1), ((.ofNat 3), []), (sL 20), (sL 21), (sL 22)])]),
  [((23, [], [], [], zh145, [(2, [1], []), (1, [1], []), (29, [6], [((.ofNat 1), [(1, (.ofNat 1))]), ((.ofNat 3), []), (sL 20), ((.ofNat 1), []), ((.ofNat 3), [])])]), 0, 0)])
noncomputable def c167_59_e : List Ct := []
noncomputable def c167_59_pts : List PE := []
set_option maxRecDepth 100000 in
theorem c167_59_k : enCtF c167_59 c167_59_e (pkP (c167_59_pts ++ []) []) (none) (noF, (mWst 9), 0, 512, 23) 3000 = true := by decide +kernel
set_option maxRecDepth 100000 in
theorem c167_59_v : ValidC PPk c167_59 := ct_ok fpk ⟨noF_ok, (mWst_ok 9)⟩ (d := 0) (ext := []) (pts := c167_59_pts) (env := c167_59_e) rfl (fun _ h => (by cases h)) ext_nil (fun q h => (by cases h)) (enF c167_59_k) (fun _ h => (by cases h))

noncomputable def c166_33 : Ct := (166, 3, (21, (zt58 []), [((.negSucc 68), [(0, (.ofNat 1)), (1, (.ofNat 1))])], [qvR 0, qvK (.ofNat 10)], zh141, [(2, [1], []), (1, [1], []), (29, [6], [(sL 1), ((.ofNat 3), []), (sL 18), (sL 19), (sL 20)])]),
  [((22, [qtN 1 1 69, qtN 19 0 0, qtN 21 2 70], [((.negSucc 69), [(0, (.ofNat 1)), (1, (.ofNat 1))]), ((.negSucc 0), [(0, (.negSucc 0)), (1, (.negSucc 0)), (21, (.ofNat 1))]), ((.negSucc 67), [(0, (.ofNat 1)), (1, (.ofNat 1)), (21, (.negSucc 0))]), ((.negSucc 68), [(0, (.ofNat 1)), (1, (.ofNat 1)), (21, (.negSucc 0))])], [qvK (.ofNat 1)], zh146, [(2, [1], []), (1, [1], []), (29, [6], [(sL 21), ((.ofNat 3), []), (sL 18), ((.ofNat 1), []), ((.ofNat 3), [])])]), 0, 0),
   ((22, [qtN 1 1 69, qtN 19 1 1, qtN 21 1 69], [((.negSucc 69), [(0, (.ofNat 1)), (1, (.ofNat 1))]), ((.negSucc 0), [(1, (.negSucc 0)), (21, (.ofNat 1))]), ((.ofNat 0), [(1, (.negSucc 0)), (21, (.ofNat 1))]), ((.negSucc 69), [(0, (.ofNat 1)), (1, (.ofNat 1)), (21, (.negSucc 0))]), ((.negSucc 68), [(0, (.ofNat 1)), (1, (.ofNat 1)), (21, (.negSucc 0))]), ((.ofNat 0), [(0, (.negSucc 0)), (1, (.negSucc 0)), (21, (.ofNat 1))])], [qvK (.ofNat 0)], zh143, [(2, [1], []), (1, [1], []), (29, [6], [(sL 21), ((.ofNat 3), []), (sL 18), (sL 19), ((.ofNat 3), [])])]), 0, 0)])
noncomputable def c166_33_e : List Ct := [c162_32, c162_33, c163_0, c167_59]
noncomputable def c166_33_pts : List PE := []
set_option maxRecDepth 100000 in
theorem c166_33_k : enCtF c166_33 c166_33_e (pkP (c166_33_pts ++ []) []) (none) ((hOr (hWpop 22 6) (hWz 42 6)), noM, 0, 4398050705408, 21) 3000 = true := by decide +kernel
set_option maxRecDepth 100000 in
theorem c166_33_v : ValidC PPk c166_33 := ct_ok fpk ⟨(hOr_ok (hWpop_ok 22 6) (hWz_ok 42 6)), noM_ok⟩ (d := 2) (ext := []) (pts := c166_33_pts) (env := c166_33_e) rfl (List.forall_mem_cons.mpr ⟨⟨c162_32_v, Nat.le_of_ble_eq_true rfl⟩, List.forall_mem_cons.mpr ⟨⟨c162_33_v, Nat.le_of_ble_eq_true rfl⟩, List.forall_mem_cons.mpr ⟨⟨c163_0_v, Nat.le_of_ble_eq_true rfl⟩, List.forall_mem_cons.mpr ⟨⟨c167_59_v, Nat.le_of_ble_eq_true rfl⟩, fun _ h => (by cases h)⟩⟩⟩⟩) ext_nil (fun q h => (by cases h)) (enF c166_33_k) (fun _ h => (by cases h))

noncomputable def c167_60 : Ct := (167, 1, (23, (zt65 []), [], [qvR 0, qvK (.ofNat 9)], zh144, [(2, [1], []), (1, [1], []), (29, [6], [(sL 1), ((.ofNat 3), []), (sL 20), (sL 21), (sL 22)])]),
  [((23, [], [], [], zh145, [(2, [1], []), (1, [1], []), (29, [6], [((.ofNat 1), [(1, (.ofNat 1))]), ((.ofNat 3), []), (sL 20), ((.ofNat 1), []), ((.ofNat 3), [])])]), 0, 0)])
noncomputable def c167_60_e : List Ct := []
noncomputable def c167_60_pts : List PE := []
set_option maxRecDepth 100000 in
theorem c167_60_k : enCtF c167_60 c167_60_e (pkP (c167_60_pts ++ []) []) (none) (noF, (mWst 9), 0, 512, 23) 3000 = true := by decide +kernel
set_option maxRecDepth 100000 in
theorem c167_60_v : ValidC PPk c167_60 := ct_ok fpk ⟨noF_ok, (mWst_ok 9)⟩ (d := 0) (ext := []) (pts := c167_60_pts) (env := c167_60_e) rfl (fun _ h => (by cases h)) ext_nil (fun q h => (by cases h)) (enF c167_60_k) (fun _ h => (by cases h))

noncomputable def c166_34 : Ct := (166, 3, (21, (zt58 []), [((.negSucc 68), [(0, (.ofNat 1)), (1, (.ofNat 1))])], [qvR 0, qvK (.ofNat 9)], zh141, [(2, [1], []), (1, [1], []), (29, [6], [(sL 1), ((.ofNat 3), []), (sL 18), (sL 19), (sL 20)])]),
  [((22, [qtN 1 1 69, qtN 19 0 0, qtN 21 2 70], [((.negSucc 69), [(0, (.ofNat 1)), (1, (.ofNat 1))]), ((.negSucc 0), [(0, (.negSucc 0)), (1, (.negSucc 0)), (21, (.ofNat 1))]), ((.negSucc 67), [(0, (.ofNat 1)), (1, (.ofNat 1)), (21, (.negSucc 0))]), ((.negSucc 68), [(0, (.ofNat 1)), (1, (.ofNat 1)), (21, (.negSucc 0))])], [qvK (.ofNat 1)], zh146, [(2, [1], []), (1, [1], []), (29, [6], [(sL 21), ((.ofNat 3), []), (sL 18), ((.ofNat 1), []), ((.ofNat 3), [])])]), 0, 0),
   ((22, [qtN 1 1 69, qtN 19 1 1, qtN 21 1 69], [((.negSucc 69), [(0, (.ofNat 1)), (1, (.ofNat 1))]), ((.negSucc 0), [(1, (.negSucc 0)), (21, (.ofNat 1))]), ((.ofNat 0), [(1, (.negSucc 0)), (21, (.ofNat 1))]), ((.negSucc 69), [(0, (.ofNat 1)), (1, (.ofNat 1)), (21, (.negSucc 0))]), ((.negSucc 68), [(0, (.ofNat 1)), (1, (.ofNat 1)), (21, (.negSucc 0))]), ((.ofNat 0), [(0, (.negSucc 0)), (1, (.negSucc 0)), (21, (.ofNat 1))])], [qvK (.ofNat 0)], zh143, [(2, [1], []), (1, [1], []), (29, [6], [(sL 21), ((.ofNat 3), []), (sL 18), (sL 19), ((.ofNat 3), [])])]), 0, 0)])
noncomputable def c166_34_e : List Ct := [c162_32, c162_33, c163_0, c167_60]
noncomputable def c166_34_pts : List PE := []
set_option maxRecDepth 100000 in
theorem c166_34_k : enCtF c166_34 c166_34_e (pkP (c166_34_pts ++ []) []) (none) ((hOr (hWpop 22 6) (hWz 42 6)), noM, 0, 4398050705408, 21) 3000 = true := by decide +kernel
set_option maxRecDepth 100000 in
theorem c166_34_v : ValidC PPk c166_34 := ct_ok fpk ⟨(hOr_ok (hWpop_ok 22 6) (hWz_ok 42 6)), noM_ok⟩ (d := 2) (ext := []) (pts := c166_34_pts) (env := c166_34_e) rfl (List.forall_mem_cons.mpr ⟨⟨c162_32_v, Nat.le_of_ble_eq_true rfl⟩, List.forall_mem_cons.mpr ⟨⟨c162_33_v, Nat.le_of_ble_eq_true rfl⟩, List.forall_mem_cons.mpr ⟨⟨c163_0_v, Nat.le_of_ble_eq_true rfl⟩, List.forall_mem_cons.mpr ⟨⟨c167_60_v, Nat.le_of_ble_eq_true rfl⟩, fun _ h => (by cases h)⟩⟩⟩⟩) ext_nil (fun q h => (by cases h)) (enF c166_34_k) (fun _ h => (by cases h))

noncomputable def c167_61 : Ct := (167, 1, (23, (zt66 []), [], [qvR 0, qvK (.ofNat 12)], zh144, [(2, [1], []), (1, [1], []), (29, [6], [(sL 1), ((.ofNat 3), []), (sL 20), (sL 21), (sL 22)])]),
  [((23, [], [], [], zh145, [(2, [1], []), (1, [1], []), (29, [6], [((.ofNat 1), [(1, (.ofNat 1))]), ((.ofNat 3), []), (sL 20), (sL 21), ((.ofNat 1), [])])]), 0, 0)])
noncomputable def c167_61_e : List Ct := []
noncomputable def c167_61_pts : List PE := []
set_option maxRecDepth 100000 in
theorem c167_61_k : enCtF c167_61 c167_61_e (pkP (c167_61_pts ++ []) []) (none) (noF, (mWst 9), 0, 512, 23) 3000 = true := by decide +kernel
set_option maxRecDepth 100000 in
theorem c167_61_v : ValidC PPk c167_61 := ct_ok fpk ⟨noF_ok, (mWst_ok 9)⟩ (d := 0) (ext := []) (pts := c167_61_pts) (env := c167_61_e) rfl (fun _ h => (by cases h)) ext_nil (fun q h => (by cases h)) (enF c167_61_k) (fun _ h => (by cases h))

noncomputable def c166_35 : Ct := (166, 3, (21, (zt58 []), [((.negSucc 68), [(0, (.ofNat 1)), (1, (.ofNat 1))])], [qvR 0, qvK (.ofNat 12)], zh141, [(2, [1], []), (1, [1], []), (29, [6], [(sL 1), ((.ofNat 3), []), (sL 18), (sL 19), (sL 20)])]),
  [((22, [qtN 1 1 69, qtN 21 2 70], [((.negSucc 69), [(0, (.ofNat 1)), (1, (.ofNat 1))]), ((.negSucc 1), [(1, (.negSucc 0)), (21, (.ofNat 1))]), ((.negSucc 0), [(1, (.negSucc 0)), (21, (.ofNat 1))]), ((.negSucc 68), [(0, (.ofNat 1)), (1, (.ofNat 1)), (21, (.negSucc 0))]), ((.negSucc 67), [(0, (.ofNat 1)), (1, (.ofNat 1)), (21, (.negSucc 0))]), ((.negSucc 0), [(0, (.negSucc 0)), (1, (.negSucc 0)), (21, (.ofNat 1))])], [qvK (.ofNat 1)], zh146, [(2, [1], []), (1, [1], []), (29, [6], [(sL 21), ((.ofNat 3), []), (sL 18), ((.ofNat 0), []), ((.ofNat 1), [])])]), 0, 0)])
noncomputable def c166_35_e : List Ct := [c162_6, c163_0, c167_61]
noncomputable def c166_35_pts : List PE := []
set_option maxRecDepth 100000 in
theorem c166_35_k : enCtF c166_35 c166_35_e (pkP (c166_35_pts ++ []) []) (none) ((hOr (hWpop 22 6) (hWz 42 6)), noM, 0, 4398050705408, 21) 3000 = true := by decide +kernel
set_option maxRecDepth 100000 in
theorem c166_35_v : ValidC PPk c166_35 := ct_ok fpk ⟨(hOr_ok (hWpop_ok 22 6) (hWz_ok 42 6)), noM_ok⟩ (d := 2) (ext := []) (pts := c166_35_pts) (env := c166_35_e) rfl (List.forall_mem_cons.mpr ⟨⟨c162_6_v, Nat.le_of_ble_eq_true rfl⟩, List.forall_mem_cons.mpr ⟨⟨c163_0_v, Nat.le_of_ble_eq_true rfl⟩, List.forall_mem_cons.mpr ⟨⟨c167_61_v, Nat.le_of_ble_eq_true rfl⟩, fun _ h => (by cases h)⟩⟩⟩) ext_nil (fun q h => (by cases h)) (enF c166_35_k) (fun _ h => (by cases h))

noncomputable def c162_34 : Ct := (162, 2, (21, (zt58 []), [((.negSucc 68), [(0, (.ofNat 1)), (1, (.ofNat 1))])], [qvR 0, qvK (.ofNat 2)], zh141, [(2, [1], []), (1, [1], []), (29, [6], [(sL 1), ((.ofNat 4), []), (sL 18), (sL 19), (sL 20)])]),
  [((23, [qtN 21 1 69, qtN 22 0 1], [((.ofNat 0), [(0, (.negSucc 0)), (1, (.negSucc 0)), (21, (.ofNat 1))]), ((.negSucc 68), [(0, (.ofNat 1)), (1, (.ofNat 1)), (21, (.negSucc 0))]), ((.negSucc 69), [(0, (.ofNat 1)), (1, (.ofNat 1)), (21, (.negSucc 0))]), ((.negSucc 69), [(0, (.ofNat 1)), (1, (.ofNat 1))]), ((.ofNat 0), [(1, (.negSucc 0)), (21, (.ofNat 1))]), ((.negSucc 0), [(1, (.negSucc 0)), (21, (.ofNat 1))])], [], zh143, [(2, [1], []), (1, [1], []), (29, [6], [(sL 21), ((.ofNat 4), []), (sL 18), ((.ofNat 0), []), (sL 22)])]), 0, 0)])
noncomputable def c162_34_e : List Ct := [c163_0, c164_0]
noncomputable def c162_34_p0 : PE := (0, [0, 1], (24, (zt59 []), [((.negSucc 68), [(0, (.ofNat 1)), (1, (.ofNat 1))]), ((.negSucc 69), [(0, (.ofNat 1)), (1, (.ofNat 1))]), ((.ofNat 0), [(0, (.negSucc 0)), (1, (.negSucc 0)), (21, (.ofNat 1))]), ((.negSucc 68), [(0, (.ofNat 1)), (1, (.ofNat 1)), (21, (.negSucc 0))]), ((.negSucc 69), [(0, (.ofNat 1)), (1, (.ofNat 1)), (21, (.negSucc 0))]), ((.ofNat 0), [(1, (.negSucc 0)), (21, (.ofNat 1))]), ((.negSucc 0), [(1, (.negSucc 0)), (21, (.ofNat 1))])], [qvR 0, qvK (.ofNat 2)], zh143, [(2, [1], []), (1, [1], []), (29, [6], [(sL 21), ((.ofNat 4), []), (sL 18), (sL 22), (sL 23)])]), symsL 21 0, some ((.ofNat 139), [(0, (.negSucc 0)), (1, (.negSucc 0)), (21, (.ofNat 1))]), 0, 0)
noncomputable def c162_34_pts : List PE := [c162_34_p0]
set_option maxRecDepth 100000 in
theorem c162_34_k : enCtF c162_34 c162_34_e (pkP (c162_34_pts ++ []) [0]) (none) ((hOr (hWpop 7 6) (hWz 52 6)), noM, 1, 4503599627370624, 21) 3000 = true := by decide +kernel
set_option maxRecDepth 100000 in
theorem c162_34_k0 : ptCtF c162_34 c162_34_e (pkP (c162_34_pts ++ []) [0]) ((hOr (hWpop 7 6) (hWz 52 6)), noM, 1, 4503599627370624, 21) 3000 c162_34_p0 = true := by decide +kernel
set_option maxRecDepth 100000 in
theorem c162_34_v : ValidC PPk c162_34 := ct_ok fpk ⟨(hOr_ok (hWpop_ok 7 6) (hWz_ok 52 6)), noM_ok⟩ (d := 1) (ext := []) (pts := c162_34_pts) (env := c162_34_e) rfl (List.forall_mem_cons.mpr ⟨⟨c163_0_v, Nat.le_of_ble_eq_true rfl⟩, List.forall_mem_cons.mpr ⟨⟨c164_0_v, Nat.le_of_ble_eq_true rfl⟩, fun _ h => (by cases h)⟩⟩) ext_nil (fun q h => (by cases h)) (enF c162_34_k) (List.forall_mem_cons.mpr ⟨⟨_, ptF c162_34_k0⟩, fun _ h => (by cases h)⟩)

noncomputable def c167_62 : Ct := (167, 1, (23, (zt62 []), [], [qvR 0, qvK (.ofNat 11)], zh144, [(2, [1], []), (1, [1], []), (29, [6], [(sL 1), ((.ofNat 4), []), (sL 20), (sL 21), (sL 22)])]),
  [((23, [], [], [], zh145, [(2, [1], []), (1, [1], []), (29, [6], [((.ofNat 1), [(1, (.ofNat 1))]), ((.ofNat 4), []), (sL 20), (sL 21), ((.ofNat 2), [])])]), 0, 0)])
noncomputable def c167_62_e : List Ct := []
noncomputable def c167_62_pts : List PE := []
set_option maxRecDepth 100000 in
theorem c167_62_k : enCtF c167_62 c167_62_e (pkP (c167_62_pts ++ []) []) (none) (noF, (mWst 9), 0, 512, 23) 3000 = true := by decide +kernel
set_option maxRecDepth 100000 in
theorem c167_62_v : ValidC PPk c167_62 := ct_ok fpk ⟨noF_ok, (mWst_ok 9)⟩ (d := 0) (ext := []) (pts := c167_62_pts) (env := c167_62_e) rfl (fun _ h => (by cases h)) ext_nil (fun q h => (by cases h)) (enF c167_62_k) (fun _ h => (by cases h))

noncomputable def c166_36 : Ct := (166, 3, (21, (zt58 []), [((.negSucc 68), [(0, (.ofNat 1)), (1, (.ofNat 1))])], [qvR 0, qvK (.ofNat 11)], zh141, [(2, [1], []), (1, [1], []), (29, [6], [(sL 1), ((.ofNat 4), []), (sL 18), (sL 19), (sL 20)])]),
  [((22, [qtN 1 1 69, qtN 21 2 70], [((.negSucc 69), [(0, (.ofNat 1)), (1, (.ofNat 1))]), ((.negSucc 1), [(1, (.negSucc 0)), (21, (.ofNat 1))]), ((.negSucc 0), [(1, (.negSucc 0)), (21, (.ofNat 1))]), ((.negSucc 68), [(0, (.ofNat 1)), (1, (.ofNat 1)), (21, (.negSucc 0))]), ((.negSucc 67), [(0, (.ofNat 1)), (1, (.ofNat 1)), (21, (.negSucc 0))]), ((.negSucc 0), [(0, (.negSucc 0)), (1, (.negSucc 0)), (21, (.ofNat 1))])], [qvK (.ofNat 1)], zh146, [(2, [1], []), (1, [1], []), (29, [6], [(sL 21), ((.ofNat 4), []), (sL 18), ((.ofNat 0), []), ((.ofNat 2), [])])]), 0, 0)])
noncomputable def c166_36_e : List Ct := [c162_34, c163_0, c167_62]
noncomputable def c166_36_pts : List PE := []
set_option maxRecDepth 100000 in
theorem c166_36_k : enCtF c166_36 c166_36_e (pkP (c166_36_pts ++ []) []) (none) ((hOr (hWpop 22 6) (hWz 42 6)), noM, 0, 4398050705408, 21) 3000 = true := by decide +kernel
set_option maxRecDepth 100000 in
theorem c166_36_v : ValidC PPk c166_36 := ct_ok fpk ⟨(hOr_ok (hWpop_ok 22 6) (hWz_ok 42 6)), noM_ok⟩ (d := 2) (ext := []) (pts := c166_36_pts) (env := c166_36_e) rfl (List.forall_mem_cons.mpr ⟨⟨c162_34_v, Nat.le_of_ble_eq_true rfl⟩, List.forall_mem_cons.mpr ⟨⟨c163_0_v, Nat.le_of_ble_eq_true rfl⟩, List.forall_mem_cons.mpr ⟨⟨c167_62_v, Nat.le_of_ble_eq_true rfl⟩, fun _ h => (by cases h)⟩⟩⟩) ext_nil (fun q h => (by cases h)) (enF c166_36_k) (fun _ h => (by cases h))

noncomputable def c162_35 : Ct := (162, 2, (21, (zt58 []), [((.negSucc 68), [(0, (.ofNat 1)), (1, (.ofNat 1))])], [qvR 0, qvK (.ofNat 5)], zh141, [(2, [1], []), (1, [1], []), (29, [6], [(sL 1), ((.ofNat 4), []), (sL 18), (sL 19), (sL 20)])]),
  [((23, [qtN 21 1 69, qtN 22 0 4], [((.ofNat 0), [(0, (.negSucc 0)), (1, (.negSucc 0)), (21, (.ofNat 1))]), ((.negSucc 68), [(0, (.ofNat 1)), (1, (.ofNat 1)), (21, (.negSucc 0))]), ((.negSucc 69), [(0, (.ofNat 1)), (1, (.ofNat 1)), (21, (.negSucc 0))]), ((.negSucc 69), [(0, (.ofNat 1)), (1, (.ofNat 1))]), ((.ofNat 0), [(1, (.negSucc 0)), (21, (.ofNat 1))]), ((.negSucc 0), [(1, (.negSucc 0)), (21, (.ofNat 1))])], [], zh143, [(2, [1], []), (1, [1], []), (29, [6], [(sL 21), ((.ofNat 4), []), (sL 18), (sL 19), (sL 22)])]), 0, 0)])
noncomputable def c162_35_e : List Ct := [c163_0, c164_0]
noncomputable def c162_35_p0 : PE := (0, [0, 1], (23, (zt61 []), [((.negSucc 68), [(0, (.ofNat 1)), (1, (.ofNat 1))]), ((.negSucc 69), [(0, (.ofNat 1)), (1, (.ofNat 1))]), ((.ofNat 0), [(0, (.negSucc 0)), (1, (.negSucc 0)), (21, (.ofNat 1))]), ((.negSucc 68), [(0, (.ofNat 1)), (1, (.ofNat 1)), (21, (.negSucc 0))]), ((.negSucc 69), [(0, (.ofNat 1)), (1, (.ofNat 1)), (21, (.negSucc 0))]), ((.ofNat 0), [(1, (.negSucc 0)), (21, (.ofNat 1))]), ((.negSucc 0), [(1, (.negSucc 0)), (21, (.ofNat 1))])], [qvR 0, qvK (.ofNat 5)], zh143, [(2, [1], []), (1, [1], []), (29, [6], [(sL 21), ((.ofNat 4), []), (sL 18), (sL 19), (sL 22)])]), symsL 21 0, some ((.ofNat 139), [(0, (.negSucc 0)), (1, (.negSucc 0)), (21, (.ofNat 1))]), 0, 0)
noncomputable def c162_35_pts : List PE := [c162_35_p0]
set_option maxRecDepth 100000 in
theorem c162_35_k : enCtF c162_35 c162_35_e (pkP (c162_35_pts ++ []) [0]) (none) ((hOr (hWpop 7 6) (hWz 52 6)), noM, 1, 4503599627370624, 21) 3000 = true := by decide +kernel
set_option maxRecDepth 100000 in
theorem c162_35_k0 : ptCtF c162_35 c162_35_e (pkP (c162_35_pts ++ []) [0]) ((hOr (hWpop 7 6) (hWz 52 6)), noM, 1, 4503599627370624, 21) 3000 c162_35_p0 = true := by decide +kernel
set_option maxRecDepth 100000 in
theorem c162_35_v : ValidC PPk c162_35 := ct_ok fpk ⟨(hOr_ok (hWpop_ok 7 6) (hWz_ok 52 6)), noM_ok⟩ (d := 1) (ext := []) (pts := c162_35_pts) (env := c162_35_e) rfl (List.forall_mem_cons.mpr ⟨⟨c163_0_v, Nat.le_of_ble_eq_true rfl⟩, List.forall_mem_cons.mpr ⟨⟨c164_0_v, Nat.le_of_ble_eq_true rfl⟩, fun _ h => (by cases h)⟩⟩) ext_nil (fun q h => (by cases h)) (enF c162_35_k) (List.forall_mem_cons.mpr ⟨⟨_, ptF c162_35_k0⟩, fun _ h => (by cases h)⟩)

noncomputable def c167_63 : Ct := (167, 1, (23, (zt63 []), [], [qvR 0, qvK (.ofNat 4)], zh144, [(2, [1], []), (1, [1], []), (29, [6], [(sL 1), ((.ofNat 4), []), (sL 20), (sL 21), (sL 22)])]),
  [((23, [], [], [], zh145, [(2, [1], []), (1, [1], []), (29, [6], [((.ofNat 1), [(1, (.ofNat 1))]), ((.ofNat 4), []), (sL 20), (sL 21), ((.ofNat 5), [])])]), 0, 0)])
noncomputable def c167_63_e : List Ct := []
noncomputable def c167_63_pts : List PE := []
set_option maxRecDepth 100000 in
theorem c167_63_k : enCtF c167_63 c167_63_e (pkP (c167_63_pts ++ []) []) (none) (noF, (mWst 9), 0, 512, 23) 3000 = true := by decide +kernel
set_option maxRecDepth 100000 in
theorem c167_63_v : ValidC PPk c167_63 := ct_ok fpk ⟨noF_ok, (mWst_ok 9)⟩ (d := 0) (ext := []) (pts := c167_63_pts) (env := c167_63_e) rfl (fun _ h => (by cases h)) ext_nil (fun q h => (by cases h)) (enF c167_63_k) (fun _ h => (by cases h))

noncomputable def c166_37 : Ct := (166, 3, (21, (zt58 []), [((.negSucc 68), [(0, (.ofNat 1)), (1, (.ofNat 1))])], [qvR 0, qvK (.ofNat 4)], zh141, [(2, [1], []), (1, [1], []), (29, [6], [(sL 1), ((.ofNat 4), []), (sL 18), (sL 19), (sL 20)])]),
  [((22, [qtN 1 1 69, qtN 21 2 70], [((.negSucc 69), [(0, (.ofNat 1)), (1, (.ofNat 1))]), ((.negSucc 1), [(1, (.negSucc 0)), (21, (.ofNat 1))]), ((.negSucc 0), [(1, (.negSucc 0)), (21, (.ofNat 1))]), ((.negSucc 68), [(0, (.ofNat 1)), (1, (.ofNat 1)), (21, (.negSucc 0))]), ((.negSucc 67), [(0, (.ofNat 1)), (1, (.ofNat 1)), (21, (.negSucc 0))]), ((.negSucc 0), [(0, (.negSucc 0)), (1, (.negSucc 0)), (21, (.ofNat 1))])], [qvK (.ofNat 1)], zh146, [(2, [1], []), (1, [1], []), (29, [6], [(sL 21), ((.ofNat 4), []), (sL 18), (sL 19), ((.ofNat 5), [])])]), 0, 0)])
noncomputable def c166_37_e : List Ct := [c162_35, c163_0, c167_63]
noncomputable def c166_37_pts : List PE := []
set_option maxRecDepth 100000 in
theorem c166_37_k : enCtF c166_37 c166_37_e (pkP (c166_37_pts ++ []) []) (none) ((hOr (hWpop 22 6) (hWz 42 6)), noM, 0, 4398050705408, 21) 3000 = true := by decide +kernel
set_option maxRecDepth 100000 in
theorem c166_37_v : ValidC PPk c166_37 := ct_ok fpk ⟨(hOr_ok (hWpop_ok 22 6) (hWz_ok 42 6)), noM_ok⟩ (d := 2) (ext := []) (pts := c166_37_pts) (env := c166_37_e) rfl (List.forall_mem_cons.mpr ⟨⟨c162_35_v, Nat.le_of_ble_eq_true rfl⟩, List.forall_mem_cons.mpr ⟨⟨c163_0_v, Nat.le_of_ble_eq_true rfl⟩, List.forall_mem_cons.mpr ⟨⟨c167_63_v, Nat.le_of_ble_eq_true rfl⟩, fun _ h => (by cases h)⟩⟩⟩) ext_nil (fun q h => (by cases h)) (enF c166_37_k) (fun _ h => (by cases h))

noncomputable def c162_36 : Ct := (162, 2, (21, (zt58 []), [((.negSucc 68), [(0, (.ofNat 1)), (1, (.ofNat 1))])], [qvR 0, qvK (.ofNat 4)], zh141, [(2, [1], []), (1, [1], []), (29, [6], [(sL 1), ((.ofNat 4), []), (sL 18), (sL 19), (sL 20)])]),
  [((23, [qtN 21 1 69, qtN 22 0 3], [((.ofNat 0), [(0, (.negSucc 0)), (1, (.negSucc 0)), (21, (.ofNat 1))]), ((.negSucc 68), [(0, (.ofNat 1)), (1, (.ofNat 1)), (21, (.negSucc 0))]), ((.negSucc 69), [(0, (.ofNat 1)), (1, (.ofNat 1)), (21, (.negSucc 0))]), ((.negSucc 69), [(0, (.ofNat 1)), (1, (.ofNat 1))]), ((.ofNat 0), [(1, (.negSucc 0)), (21, (.ofNat 1))]), ((.negSucc 0), [(1, (.negSucc 0)), (21, (.ofNat 1))])], [], zh143, [(2, [1], []), (1, [1], []), (29, [6], [(sL 21), ((.ofNat 4), []), (sL 18), (sL 19), (sL 22)])]), 0, 0)])
noncomputable def c162_36_e : List Ct := [c163_0, c164_0]
noncomputable def c162_36_p0 : PE := (0, [0, 1], (23, (zt61 []), [((.negSucc 68), [(0, (.ofNat 1)), (1, (.ofNat 1))]), ((.negSucc 69), [(0, (.ofNat 1)), (1, (.ofNat 1))]), ((.ofNat 0), [(0, (.negSucc 0)), (1, (.negSucc 0)), (21, (.ofNat 1))]), ((.negSucc 68), [(0, (.ofNat 1)), (1, (.ofNat 1)), (21, (.negSucc 0))]), ((.negSucc 69), [(0, (.ofNat 1)), (1, (.ofNat 1)), (21, (.negSucc 0))]), ((.ofNat 0), [(1, (.negSucc 0)), (21, (.ofNat 1))]), ((.negSucc 0), [(1, (.negSucc 0)), (21, (.ofNat 1))])], [qvR 0, qvK (.ofNat 4)], zh143, [(2, [1], []), (1, [1], []), (29, [6], [(sL 21), ((.ofNat 4), []), (sL 18), (sL 19), (sL 22)])]), symsL 21 0, some ((.ofNat 139), [(0, (.negSucc 0)), (1, (.negSucc 0)), (21, (.ofNat 1))]), 0, 0)
noncomputable def c162_36_pts : List PE := [c162_36_p0]
set_option maxRecDepth 100000 in
theorem c162_36_k : enCtF c162_36 c162_36_e (pkP (c162_36_pts ++ []) [0]) (none) ((hOr (hWpop 7 6) (hWz 52 6)), noM, 1, 4503599627370624, 21) 3000 = true := by decide +kernel
set_option maxRecDepth 100000 in
theorem c162_36_k0 : ptCtF c162_36 c162_36_e (pkP (c162_36_pts ++ []) [0]) ((hOr (hWpop 7 6) (hWz 52 6)), noM, 1, 4503599627370624, 21) 3000 c162_36_p0 = true := by decide +kernel
set_option maxRecDepth 100000 in
theorem c162_36_v : ValidC PPk c162_36 := ct_ok fpk ⟨(hOr_ok (hWpop_ok 7 6) (hWz_ok 52 6)), noM_ok⟩ (d := 1) (ext := []) (pts := c162_36_pts) (env := c162_36_e) rfl (List.forall_mem_cons.mpr ⟨⟨c163_0_v, Nat.le_of_ble_eq_true rfl⟩, List.forall_mem_cons.mpr ⟨⟨c164_0_v, Nat.le_of_ble_eq_true rfl⟩, fun _ h => (by cases h)⟩⟩) ext_nil (fun q h => (by cases h)) (enF c162_36_k) (List.forall_mem_cons.mpr ⟨⟨_, ptF c162_36_k0⟩, fun _ h => (by cases h)⟩)

noncomputable def c167_64 : Ct := (167, 1, (23, (zt64 []), [], [qvR 0, qvK (.ofNat 6)], zh144, [(2, [1], []), (1, [1], []), (29, [6], [(sL 1), ((.ofNat 4), []), (sL 20), (sL 21), (sL 22)])]),
  [((23, [], [], [], zh145, [(2, [1], []), (1, [1], []), (29, [6], [((.ofNat 1), [(1, (.ofNat 1))]), ((.ofNat 4), []), (sL 20), (sL 21), ((.ofNat 4), [])])]), 0, 0)])
noncomputable def c167_64_e : List Ct := []
noncomputable def c167_64_pts : List PE := []
set_option maxRecDepth 100000 in
theorem c167_64_k : enCtF c167_64 c167_64_e (pkP (c167_64_pts ++ []) []) (none) (noF, (mWst 9), 0, 512, 23) 3000 = true := by decide +kernel
set_option maxRecDepth 100000 in
theorem c167_64_v : ValidC PPk c167_64 := ct_ok fpk ⟨noF_ok, (mWst_ok 9)⟩ (d := 0) (ext := []) (pts := c167_64_pts) (env := c167_64_e) rfl (fun _ h => (by cases h)) ext_nil (fun q h => (by cases h)) (enF c167_64_k) (fun _ h => (by cases h))

noncomputable def c166_38 : Ct := (166, 3, (21, (zt58 []), [((.negSucc 68), [(0, (.ofNat 1)), (1, (.ofNat 1))])], [qvR 0, qvK (.ofNat 6)], zh141, [(2, [1], []), (1, [1], []), (29, [6], [(sL 1), ((.ofNat 4), []), (sL 18), (sL 19), (sL 20)])]),
  [((22, [qtN 1 1 69, qtN 21 2 70], [((.negSucc 69), [(0, (.ofNat 1)), (1, (.ofNat 1))]), ((.negSucc 1), [(1, (.negSucc 0)), (21, (.ofNat 1))]), ((.negSucc 0), [(1, (.negSucc 0)), (21, (.ofNat 1))]), ((.negSucc 68), [(0, (.ofNat 1)), (1, (.ofNat 1)), (21, (.negSucc 0))]), ((.negSucc 67), [(0, (.ofNat 1)), (1, (.ofNat 1)), (21, (.negSucc 0))]), ((.negSucc 0), [(0, (.negSucc 0)), (1, (.negSucc 0)), (21, (.ofNat 1))])], [qvK (.ofNat 1)], zh146, [(2, [1], []), (1, [1], []), (29, [6], [(sL 21), ((.ofNat 4), []), (sL 18), (sL 19), ((.ofNat 4), [])])]), 0, 0)])
noncomputable def c166_38_e : List Ct := [c162_36, c163_0, c167_64]
noncomputable def c166_38_pts : List PE := []
set_option maxRecDepth 100000 in
theorem c166_38_k : enCtF c166_38 c166_38_e (pkP (c166_38_pts ++ []) []) (none) ((hOr (hWpop 22 6) (hWz 42 6)), noM, 0, 4398050705408, 21) 3000 = true := by decide +kernel
set_option maxRecDepth 100000 in
theorem c166_38_v : ValidC PPk c166_38 := ct_ok fpk ⟨(hOr_ok (hWpop_ok 22 6) (hWz_ok 42 6)), noM_ok⟩ (d := 2) (ext := []) (pts := c166_38_pts) (env := c166_38_e) rfl (List.forall_mem_cons.mpr ⟨⟨c162_36_v, Nat.le_of_ble_eq_true rfl⟩, List.forall_mem_cons.mpr ⟨⟨c163_0_v, Nat.le_of_ble_eq_true rfl⟩, List.forall_mem_cons.mpr ⟨⟨c167_64_v, Nat.le_of_ble_eq_true rfl⟩, fun _ h => (by cases h)⟩⟩⟩) ext_nil (fun q h => (by cases h)) (enF c166_38_k) (fun _ h => (by cases h))

noncomputable def c167_65 : Ct := (167, 1, (23, (zt64 []), [], [qvR 0, qvK (.ofNat 7)], zh144, [(2, [1], []), (1, [1], []), (29, [6], [(sL 1), ((.ofNat 4), []), (sL 20), (sL 21), (sL 22)])]),
  [((23, [], [], [], zh145, [(2, [1], []), (1, [1], []), (29, [6], [((.ofNat 1), [(1, (.ofNat 1))]), ((.ofNat 4), []), (sL 20), (sL 21), ((.ofNat 4), [])])]), 0, 0)])
noncomputable def c167_65_e : List Ct := []
noncomputable def c167_65_pts : List PE := []
set_option maxRecDepth 100000 in
theorem c167_65_k : enCtF c167_65 c167_65_e (pkP (c167_65_pts ++ []) []) (none) (noF, (mWst 9), 0, 512, 23) 3000 = true := by decide +kernel
set_option maxRecDepth 100000 in
theorem c167_65_v : ValidC PPk c167_65 := ct_ok fpk ⟨noF_ok, (mWst_ok 9)⟩ (d := 0) (ext := []) (pts := c167_65_pts) (env := c167_65_e) rfl (fun _ h => (by cases h)) ext_nil (fun q h => (by cases h)) (enF c167_65_k) (fun _ h => (by cases h))

noncomputable def c166_39 : Ct := (166, 3, (21, (zt58 []), [((.negSucc 68), [(0, (.ofNat 1)), (1, (.ofNat 1))])], [qvR 0, qvK (.ofNat 7)], zh141, [(2, [1], []), (1, [1], []), (29, [6], [(sL 1), ((.ofNat 4), []), (sL 18), (sL 19), (sL 20)])]),
  [((22, [qtN 1 1 69, qtN 21 2 70], [((.negSucc 69), [(0, (.ofNat 1)), (1, (.ofNat 1))]), ((.negSucc 1), [(1, (.negSucc 0)), (21, (.ofNat 1))]), ((.negSucc 0), [(1, (.negSucc 0)), (21, (.ofNat 1))]), ((.negSucc 68), [(0, (.ofNat 1)), (1, (.ofNat 1)), (21, (.negSucc 0))]), ((.negSucc 67), [(0, (.ofNat 1)), (1, (.ofNat 1)), (21, (.negSucc 0))]), ((.negSucc 0), [(0, (.negSucc 0)), (1, (.negSucc 0)), (21, (.ofNat 1))])], [qvK (.ofNat 1)], zh146, [(2, [1], []), (1, [1], []), (29, [6], [(sL 21), ((.ofNat 4), []), (sL 18), (sL 19), ((.ofNat 4), [])])]), 0, 0)])
noncomputable def c166_39_e : List Ct := [c162_36, c163_0, c167_65]
noncomputable def c166_39_pts : List PE := []
set_option maxRecDepth 100000 in
theorem c166_39_k : enCtF c166_39 c166_39_e (pkP (c166_39_pts ++ []) []) (none) ((hOr (hWpop 22 6) (hWz 42 6)), noM, 0, 4398050705408, 21) 3000 = true := by decide +kernel
set_option maxRecDepth 100000 in
theorem c166_39_v : ValidC PPk c166_39 := ct_ok fpk ⟨(hOr_ok (hWpop_ok 22 6) (hWz_ok 42 6)), noM_ok⟩ (d := 2) (ext := []) (pts := c166_39_pts) (env := c166_39_e) rfl (List.forall_mem_cons.mpr ⟨⟨c162_36_v, Nat.le_of_ble_eq_true rfl⟩, List.forall_mem_cons.mpr ⟨⟨c163_0_v, Nat.le_of_ble_eq_true rfl⟩, List.forall_mem_cons.mpr ⟨⟨c167_65_v, Nat.le_of_ble_eq_true rfl⟩, fun _ h => (by cases h)⟩⟩⟩) ext_nil (fun q h => (by cases h)) (enF c166_39_k) (fun _ h => (by cases h))

noncomputable def c167_66 : Ct := (167, 1, (23, (zt63 []), [], [qvR 0, qvK (.ofNat 5)], zh144, [(2, [1], []), (1, [1], []), (29, [6], [(sL 1), ((.ofNat 4), []), (sL 20), (sL 21), (sL 22)])]),
  [((23, [], [], [], zh145, [(2, [1], []), (1, [1], []), (29, [6], [((.ofNat 1), [(1, (.ofNat 1))]), ((.ofNat 4), []), (sL 20), (sL 21), ((.ofNat 5), [])])]), 0, 0)])
noncomputable def c167_66_e : List Ct := []
noncomputable def c167_66_pts : List PE := []
set_option maxRecDepth 100000 in
theorem c167_66_k : enCtF c167_66 c167_66_e (pkP (c167_66_pts ++ []) []) (none) (noF, (mWst 9), 0, 512, 23) 3000 = true := by decide +kernel
set_option maxRecDepth 100000 in
theorem c167_66_v : ValidC PPk c167_66 := ct_ok fpk ⟨noF_ok, (mWst_ok 9)⟩ (d := 0) (ext := []) (pts := c167_66_pts) (env := c167_66_e) rfl (fun _ h => (by cases h)) ext_nil (fun q h => (by cases h)) (enF c167_66_k) (fun _ h => (by cases h))

noncomputable def c166_40 : Ct := (166, 3, (21, (zt58 []), [((.negSucc 68), [(0, (.ofNat 1)), (1, (.ofNat 1))])], [qvR 0, qvK (.ofNat 5)], zh141, [(2, [1], []), (1, [1], []), (29, [6], [(sL 1), ((.ofNat 4), []), (sL 18), (sL 19), (sL 20)])]),
  [((22, [qtN 1 1 69, qtN 21 2 70], [((.negSucc 69), [(0, (.ofNat 1)), (1, (.ofNat 1))]), ((.negSucc 1), [(1, (.negSucc 0)), (21, (.ofNat 1))]), ((.negSucc 0), [(1, (.negSucc 0)), (21, (.ofNat 1))]), ((.negSucc 68), [(0, (.ofNat 1)), (1, (.ofNat 1)), (21, (.negSucc 0))]), ((.negSucc 67), [(0, (.ofNat 1)), (1, (.ofNat 1)), (21, (.negSucc 0))]), ((.negSucc 0), [(0, (.negSucc 0)), (1, (.negSucc 0)), (21, (.ofNat 1))])], [qvK (.ofNat 1)], zh146, [(2, [1], []), (1, [1], []), (29, [6], [(sL 21), ((.ofNat 4), []), (sL 18), (sL 19), ((.ofNat 5), [])])]), 0, 0)])
noncomputable def c166_40_e : List Ct := [c162_35, c163_0, c167_66]
noncomputable def c166_40_pts : List PE := []
set_option maxRecDepth 100000 in
theorem c166_40_k : enCtF c166_40 c166_40_e (pkP (c166_40_pts ++ []) []) (none) ((hOr (hWpop 22 6) (hWz 42 6)), noM, 0, 4398050705408, 21) 3000 = true := by decide +kernel
set_option maxRecDepth 100000 in
theorem c166_40_v : ValidC PPk c166_40 := ct_ok fpk ⟨(hOr_ok (hWpop_ok 22 6) (hWz_ok 42 6)), noM_ok⟩ (d := 2) (ext := []) (pts := c166_40_pts) (env := c166_40_e) rfl (List.forall_mem_cons.mpr ⟨⟨c162_35_v, Nat.le_of_ble_eq_true rfl⟩, List.forall_mem_cons.mpr ⟨⟨c163_0_v, Nat.le_of_ble_eq_true rfl⟩, List.forall_mem_cons.mpr ⟨⟨c167_66_v, Nat.le_of_ble_eq_true rfl⟩, fun _ h => (by cases h)⟩⟩⟩) ext_nil (fun q h => (by cases h)) (enF c166_40_k) (fun _ h => (by cases h))

noncomputable def c162_37 : Ct := (162, 2, (21, (zt58 []), [((.negSucc 68), [(0, (.ofNat 1)), (1, (.ofNat 1))])], [qvR 0, qvK (.ofNat 3)], zh141, [(2, [1], []), (1, [1], []), (29, [6], [(sL 1), ((.ofNat 4), []), (sL 18), (sL 19), (sL 20)])]),
  [((23, [qtN 21 1 69, qtN 22 0 2], [((.ofNat 0), [(0, (.negSucc 0)), (1, (.negSucc 0)), (21, (.ofNat 1))]), ((.negSucc 68), [(0, (.ofNat 1)), (1, (.ofNat 1)), (21, (.negSucc 0))]), ((.negSucc 69), [(0, (.ofNat 1)), (1, (.ofNat 1)), (21, (.negSucc 0))]), ((.negSucc 69), [(0, (.ofNat 1)), (1, (.ofNat 1))]), ((.ofNat 0), [(1, (.negSucc 0)), (21, (.ofNat 1))]), ((.negSucc 0), [(1, (.negSucc 0)), (21, (.ofNat 1))])], [], zh143, [(2, [1], []), (1, [1], []), (29, [6], [(sL 21), ((.ofNat 4), []), (sL 18), ((.ofNat 0), []), (sL 22)])]), 0, 0)])
noncomputable def c162_37_e : List Ct := [c163_0, c164_0]
noncomputable def c162_37_p0 : PE := (0, [0, 1], (24, (zt59 []), [((.negSucc 68), [(0, (.ofNat 1)), (1, (.ofNat 1))]), ((.negSucc 69), [(0, (.ofNat 1)), (1, (.ofNat 1))]), ((.ofNat 0), [(0, (.negSucc 0)), (1, (.negSucc 0)), (21, (.ofNat 1))]), ((.negSucc 68), [(0, (.ofNat 1)), (1, (.ofNat 1)), (21, (.negSucc 0))]), ((.negSucc 69), [(0, (.ofNat 1)), (1, (.ofNat 1)), (21, (.negSucc 0))]), ((.ofNat 0), [(1, (.negSucc 0)), (21, (.ofNat 1))]), ((.negSucc 0), [(1, (.negSucc 0)), (21, (.ofNat 1))])], [qvR 0, qvK (.ofNat 3)], zh143, [(2, [1], []), (1, [1], []), (29, [6], [(sL 21), ((.ofNat 4), []), (sL 18), (sL 22), (sL 23)])]), symsL 21 0, some ((.ofNat 139), [(0, (.negSucc 0)), (1, (.negSucc 0)), (21, (.ofNat 1))]), 0, 0)
noncomputable def c162_37_pts : List PE := [c162_37_p0]
set_option maxRecDepth 100000 in
theorem c162_37_k : enCtF c162_37 c162_37_e (pkP (c162_37_pts ++ []) [0]) (none) ((hOr (hWpop 7 6) (hWz 52 6)), noM, 1, 4503599627370624, 21) 3000 = true := by decide +kernel
set_option maxRecDepth 100000 in
theorem c162_37_k0 : ptCtF c162_37 c162_37_e (pkP (c162_37_pts ++ []) [0]) ((hOr (hWpop 7 6) (hWz 52 6)), noM, 1, 4503599627370624, 21) 3000 c162_37_p0 = true := by decide +kernel
set_option maxRecDepth 100000 in
theorem c162_37_v : ValidC PPk c162_37 := ct_ok fpk ⟨(hOr_ok (hWpop_ok 7 6) (hWz_ok 52 6)), noM_ok⟩ (d := 1) (ext := []) (pts := c162_37_pts) (env := c162_37_e) rfl (List.forall_mem_cons.mpr ⟨⟨c163_0_v, Nat.le_of_ble_eq_true rfl⟩, List.forall_mem_cons.mpr ⟨⟨c164_0_v, Nat.le_of_ble_eq_true rfl⟩, fun _ h => (by cases h)⟩⟩) ext_nil (fun q h => (by cases h)) (enF c162_37_k) (List.forall_mem_cons.mpr ⟨⟨_, ptF c162_37_k0⟩, fun _ h => (by cases h)⟩)

noncomputable def c167_67 : Ct := (167, 1, (23, (zt65 []), [], [qvR 0, qvK (.ofNat 8)], zh144, [(2, [1], []), (1, [1], []), (29, [6], [(sL 1), ((.ofNat 4), []), (sL 20), (sL 21), (sL 22)])]),
  [((23, [], [], [], zh145, [(2, [1], []), (1, [1], []), (29, [6], [((.ofNat 1), [(1, (.ofNat 1))]), ((.ofNat 4), []), (sL 20), ((.ofNat 1), []), ((.ofNat 3), [])])]), 0, 0)])
noncomputable def c167_67_e : List Ct := []
noncomputable def c167_67_pts : List PE := []
set_option maxRecDepth 100000 in
theorem c167_67_k : enCtF c167_67 c167_67_e (pkP (c167_67_pts ++ []) []) (none) (noF, (mWst 9), 0, 512, 23) 3000 = true := by decide +kernel
set_option maxRecDepth 100000 in
theorem c167_67_v : ValidC PPk c167_67 := ct_ok fpk ⟨noF_ok, (mWst_ok 9)⟩ (d := 0) (ext := []) (pts := c167_67_pts) (env := c167_67_e) rfl (fun _ h => (by cases h)) ext_nil (fun q h => (by cases h)) (enF c167_67_k) (fun _ h => (by cases h))

noncomputable def c166_41 : Ct := (166, 3, (21, (zt58 []), [((.negSucc 68), [(0, (.ofNat 1)), (1, (.ofNat 1))])], [qvR 0, qvK (.ofNat 8)], zh141, [(2, [1], []), (1, [1], []), (29, [6], [(sL 1), ((.ofNat 4), []), (sL 18), (sL 19), (sL 20)])]),
  [((22, [qtN 1 1 69, qtN 19 0 0, qtN 21 2 70], [((.negSucc 69), [(0, (.ofNat 1)), (1, (.ofNat 1))]), ((.negSucc 0), [(0, (.negSucc 0)), (1, (.negSucc 0)), (21, (.ofNat 1))]), ((.negSucc 67), [(0, (.ofNat 1)), (1, (.ofNat 1)), (21, (.negSucc 0))]), ((.negSucc 68), [(0, (.ofNat 1)), (1, (.ofNat 1)), (21, (.negSucc 0))])], [qvK (.ofNat 1)], zh146, [(2, [1], []), (1, [1], []), (29, [6], [(sL 21), ((.ofNat 4), []), (sL 18), ((.ofNat 1), []), ((.ofNat 3), [])])]), 0, 0),
   ((22, [qtN 1 1 69, qtN 19 1 1, qtN 21 1 69], [((.negSucc 69), [(0, (.ofNat 1)), (1, (.ofNat 1))]), ((.negSucc 0), [(1, (.negSucc 0)), (21, (.ofNat 1))]), ((.ofNat 0), [(1, (.negSucc 0)), (21, (.ofNat 1))]), ((.negSucc 69), [(0, (.ofNat 1)), (1, (.ofNat 1)), (21, (.negSucc 0))]), ((.negSucc 68), [(0, (.ofNat 1)), (1, (.ofNat 1)), (21, (.negSucc 0))]), ((.ofNat 0), [(0, (.negSucc 0)), (1, (.negSucc 0)), (21, (.ofNat 1))])], [qvK (.ofNat 0)], zh143, [(2, [1], []), (1, [1], []), (29, [6], [(sL 21), ((.ofNat 4), []), (sL 18), (sL 19), ((.ofNat 3), [])])]), 0, 0)])
noncomputable def c166_41_e : List Ct := [c162_36, c162_37, c163_0, c167_67]
noncomputable def c166_41_pts : List PE := []
set_option maxRecDepth 100000 in
theorem c166_41_k : enCtF c166_41 c166_41_e (pkP (c166_41_pts ++ []) []) (none) ((hOr (hWpop 22 6) (hWz 42 6)), noM, 0, 4398050705408, 21) 3000 = true := by decide +kernel
set_option maxRecDepth 100000 in
theorem c166_41_v : ValidC PPk c166_41 := ct_ok fpk ⟨(hOr_ok (hWpop_ok 22 6) (hWz_ok 42 6)), noM_ok⟩ (d := 2) (ext := []) (pts := c166_41_pts) (env := c166_41_e) rfl (List.forall_mem_cons.mpr ⟨⟨c162_36_v, Nat.le_of_ble_eq_true rfl⟩, List.forall_mem_cons.mpr ⟨⟨c162_37_v, Nat.le_of_ble_eq_true rfl⟩, List.forall_mem_cons.mpr ⟨⟨c163_0_v, Nat.le_of_ble_eq_true rfl⟩, List.forall_mem_cons.mpr ⟨⟨c167_67_v, Nat.le_of_ble_eq_true rfl⟩, fun _ h => (by cases h)⟩⟩⟩⟩) ext_nil (fun q h => (by cases h)) (enF c166_41_k) (fun _ h => (by cases h))

noncomputable def c167_68 : Ct := (167, 1, (23, (zt65 []), [], [qvR 0, qvK (.ofNat 10)], zh144, [(2, [1], []), (1, [1], []), (29, [6], [(sL 1), ((.ofNat 4), []), (sL 20), (sL 21), (sL 22)])]),
  [((23, [], [], [], zh145, [(2, [1], []), (1, [1], []), (29, [6], [((.ofNat 1), [(1, (.ofNat 1))]), ((.ofNat 4), []), (sL 20), ((.ofNat 1), []), ((.ofNat 3), [])])]), 0, 0)])
noncomputable def c167_68_e : List Ct := []
noncomputable def c167_68_pts : List PE := []
set_option maxRecDepth 100000 in
theorem c167_68_k : enCtF c167_68 c167_68_e (pkP (c167_68_pts ++ []) []) (none) (noF, (mWst 9), 0, 512, 23) 3000 = true := by decide +kernel
set_option maxRecDepth 100000 in
theorem c167_68_v : ValidC PPk c167_68 := ct_ok fpk ⟨noF_ok, (mWst_ok 9)⟩ (d := 0) (ext := []) (pts := c167_68_pts) (env := c167_68_e) rfl (fun _ h => (by cases h)) ext_nil (fun q h => (by cases h)) (enF c167_68_k) (fun _ h => (by cases h))

noncomputable def c166_42 : Ct := (166, 3, (21, (zt58 []), [((.negSucc 68), [(0, (.ofNat 1)), (1, (.ofNat 1))])], [qvR 0, qvK (.ofNat 10)], zh141, [(2, [1], []), (1, [1], []), (29, [6], [(sL 1), ((.ofNat 4), []), (sL 18), (sL 19), (sL 20)])]),
  [((22, [qtN 1 1 69, qtN 19 0 0, qtN 21 2 70], [((.negSucc 69), [(0, (.ofNat 1)), (1, (.ofNat 1))]), ((.negSucc 0), [(0, (.negSucc 0)), (1, (.negSucc 0)), (21, (.ofNat 1))]), ((.negSucc 67), [(0, (.ofNat 1)), (1, (.ofNat 1)), (21, (.negSucc 0))]), ((.negSucc 68), [(0, (.ofNat 1)), (1, (.ofNat 1)), (21, (.negSucc 0))])], [qvK (.ofNat 1)], zh146, [(2, [1], []), (1, [1], []), (29, [6], [(sL 21), ((.ofNat 4), []), (sL 18), ((.ofNat 1), []), ((.ofNat 3), [])])]), 0, 0),
   ((22, [qtN 1 1 69, qtN 19 1 1, qtN 21 1 69], [((.negSucc 69), [(0, (.ofNat 1)), (1, (.ofNat 1))]), ((.negSucc 0), [(1, (.negSucc 0)), (21, (.ofNat 1))]), ((.ofNat 0), [(1, (.negSucc 0)), (21, (.ofNat 1))]), ((.negSucc 69), [(0, (.ofNat 1)), (1, (.ofNat 1)), (21, (.negSucc 0))]), ((.negSucc 68), [(0, (.ofNat 1)), (1, (.ofNat 1)), (21, (.negSucc 0))]), ((.ofNat 0), [(0, (.negSucc 0)), (1, (.negSucc 0)), (21, (.ofNat 1))])], [qvK (.ofNat 0)], zh143, [(2, [1], []), (1, [1], []), (29, [6], [(sL 21), ((.ofNat 4), []), (sL 18), (sL 19), ((.ofNat 3), [])])]), 0, 0)])
noncomputable def c166_42_e : List Ct := [c162_36, c162_37, c163_0, c167_68]
noncomputable def c166_42_pts : List PE := []
set_option maxRecDepth 100000 in
theorem c166_42_k : enCtF c166_42 c166_42_e (pkP (c166_42_pts ++ []) []) (none) ((hOr (hWpop 22 6) (hWz 42 6)), noM, 0, 4398050705408, 21) 3000 = true := by decide +kernel
set_option maxRecDepth 100000 in
theorem c166_42_v : ValidC PPk c166_42 := ct_ok fpk ⟨(hOr_ok (hWpop_ok 22 6) (hWz_ok 42 6)), noM_ok⟩ (d := 2) (ext := []) (pts := c166_42_pts) (env := c166_42_e) rfl (List.forall_mem_cons.mpr ⟨⟨c162_36_v, Nat.le_of_ble_eq_true rfl⟩, List.forall_mem_cons.mpr ⟨⟨c162_37_v, Nat.le_of_ble_eq_true rfl⟩, List.forall_mem_cons.mpr ⟨⟨c163_0_v, Nat.le_of_ble_eq_true rfl⟩, List.forall_mem_cons.mpr ⟨⟨c167_68_v, Nat.le_of_ble_eq_true rfl⟩, fun _ h => (by cases h)⟩⟩⟩⟩) ext_nil (fun q h => (by cases h)) (enF c166_42_k) (fun _ h => (by cases h))

noncomputable def c167_69 : Ct := (167, 1, (23, (zt65 []), [], [qvR 0, qvK (.ofNat 9)], zh144, [(2, [1], []), (1, [1], []), (29, [6], [(sL 1), ((.ofNat 4), []), (sL 20), (sL 21), (sL 22)])]),
  [((23, [], [], [], zh145, [(2, [1], []), (1, [1], []), (29, [6], [((.ofNat 1), [(1, (.ofNat 1))]), ((.ofNat 4), []), (sL 20), ((.ofNat 1), []), ((.ofNat 3), [])])]), 0, 0)])
noncomputable def c167_69_e : List Ct := []
noncomputable def c167_69_pts : List PE := []
set_option maxRecDepth 100000 in
theorem c167_69_k : enCtF c167_69 c167_69_e (pkP (c167_69_pts ++ []) []) (none) (noF, (mWst 9), 0, 512, 23) 3000 = true := by decide +kernel
set_option maxRecDepth 100000 in
theorem c167_69_v : ValidC PPk c167_69 := ct_ok fpk ⟨noF_ok, (mWst_ok 9)⟩ (d := 0) (ext := []) (pts := c167_69_pts) (env := c167_69_e) rfl (fun _ h => (by cases h)) ext_nil (fun q h => (by cases h)) (enF c167_69_k) (fun _ h => (by cases h))

noncomputable def c166_43 : Ct := (166, 3, (21, (zt58 []), [((.negSucc 68), [(0, (.ofNat 1)), (1, (.ofNat 1))])], [qvR 0, qvK (.ofNat 9)], zh141, [(2, [1], []), (1, [1], []), (29, [6], [(sL 1), ((.ofNat 4), []), (sL 18), (sL 19), (sL 20)])]),
  [((22, [qtN 1 1 69, qtN 19 0 0, qtN 21 2 70], [((.negSucc 69), [(0, (.ofNat 1)), (1, (.ofNat 1))]), ((.negSucc 0), [(0, (.negSucc 0)), (1, (.negSucc 0)), (21, (.ofNat 1))]), ((.negSucc 67), [(0, (.ofNat 1)), (1, (.ofNat 1)), (21, (.negSucc 0))]), ((.negSucc 68), [(0, (.ofNat 1)), (1, (.ofNat 1)), (21, (.negSucc 0))])], [qvK (.ofNat 1)], zh146, [(2, [1], []), (1, [1], []), (29, [6], [(sL 21), ((.ofNat 4), []), (sL 18), ((.ofNat 1), []), ((.ofNat 3), [])])]), 0, 0),
   ((22, [qtN 1 1 69, qtN 19 1 1, qtN 21 1 69], [((.negSucc 69), [(0, (.ofNat 1)), (1, (.ofNat 1))]), ((.negSucc 0), [(1, (.negSucc 0)), (21, (.ofNat 1))]), ((.ofNat 0), [(1, (.negSucc 0)), (21, (.ofNat 1))]), ((.negSucc 69), [(0, (.ofNat 1)), (1, (.ofNat 1)), (21, (.negSucc 0))]), ((.negSucc 68), [(0, (.ofNat 1)), (1, (.ofNat 1)), (21, (.negSucc 0))]), ((.ofNat 0), [(0, (.negSucc 0)), (1, (.negSucc 0)), (21, (.ofNat 1))])], [qvK (.ofNat 0)], zh143, [(2, [1], []), (1, [1], []), (29, [6], [(sL 21), ((.ofNat 4), []), (sL 18), (sL 19), ((.ofNat 3), [])])]), 0, 0)])
noncomputable def c166_43_e : List Ct := [c162_36, c162_37, c163_0, c167_69]
noncomputable def c166_43_pts : List PE := []
set_option maxRecDepth 100000 in
theorem c166_43_k : enCtF c166_43 c166_43_e (pkP (c166_43_pts ++ []) []) (none) ((hOr (hWpop 22 6) (hWz 42 6)), noM, 0, 4398050705408, 21) 3000 = true := by decide +kernel
set_option maxRecDepth 100000 in
theorem c166_43_v : ValidC PPk c166_43 := ct_ok fpk ⟨(hOr_ok (hWpop_ok 22 6) (hWz_ok 42 6)), noM_ok⟩ (d := 2) (ext := []) (pts := c166_43_pts) (env := c166_43_e) rfl (List.forall_mem_cons.mpr ⟨⟨c162_36_v, Nat.le_of_ble_eq_true rfl⟩, List.forall_mem_cons.mpr ⟨⟨c162_37_v, Nat.le_of_ble_eq_true rfl⟩, List.forall_mem_cons.mpr ⟨⟨c163_0_v, Nat.le_of_ble_eq_true rfl⟩, List.forall_mem_cons.mpr ⟨⟨c167_69_v, Nat.le_of_ble_eq_true rfl⟩, fun _ h => (by cases h)⟩⟩⟩⟩) ext_nil (fun q h => (by cases h)) (enF c166_43_k) (fun _ h => (by cases h))

noncomputable def c167_70 : Ct := (167, 1, (23, (zt66 []), [], [qvR 0, qvK (.ofNat 12)], zh144, [(2, [1], []), (1, [1], []), (29, [6], [(sL 1), ((.ofNat 4), []), (sL 20), (sL 21), (sL 22)])]),
  [((23, [], [], [], zh145, [(2, [1], []), (1, [1], []), (29, [6], [((.ofNat 1), [(1, (.ofNat 1))]), ((.ofNat 4), []), (sL 20), (sL 21), ((.ofNat 1), [])])]), 0, 0)])
noncomputable def c167_70_e : List Ct := []
noncomputable def c167_70_pts : List PE := []
set_option maxRecDepth 100000 in
theorem c167_70_k : enCtF c167_70 c167_70_e (pkP (c167_70_pts ++ []) []) (none) (noF, (mWst 9), 0, 512, 23) 3000 = true := by decide +kernel
set_option maxRecDepth 100000 in
theorem c167_70_v : ValidC PPk c167_70 := ct_ok fpk ⟨noF_ok, (mWst_ok 9)⟩ (d := 0) (ext := []) (pts := c167_70_pts) (env := c167_70_e) rfl (fun _ h => (by cases h)) ext_nil (fun q h => (by cases h)) (enF c167_70_k) (fun _ h => (by cases h))

noncomputable def c166_44 : Ct := (166, 3, (21, (zt58 []), [((.negSucc 68), [(0, (.ofNat 1)), (1, (.ofNat 1))])], [qvR 0, qvK (.ofNat 12)], zh141, [(2, [1], []), (1, [1], []), (29, [6], [(sL 1), ((.ofNat 4), []), (sL 18), (sL 19), (sL 20)])]),
  [((22, [qtN 1 1 69, qtN 21 2 70], [((.negSucc 69), [(0, (.ofNat 1)), (1, (.ofNat 1))]), ((.negSucc 1), [(1, (.negSucc 0)), (21, (.ofNat 1))]), ((.negSucc 0), [(1, (.negSucc 0)), (21, (.ofNat 1))]), ((.negSucc 68), [(0, (.ofNat 1)), (1, (.ofNat 1)), (21, (.negSucc 0))]), ((.negSucc 67), [(0, (.ofNat 1)), (1, (.ofNat 1)), (21, (.negSucc 0))]), ((.negSucc 0), [(0, (.negSucc 0)), (1, (.negSucc 0)), (21, (.ofNat 1))])], [qvK (.ofNat 1)], zh146, [(2, [1], []), (1, [1], []), (29, [6], [(sL 21), ((.ofNat 4), []), (sL 18), ((.ofNat 0), []), ((.ofNat 1), [])])]), 0, 0)])
noncomputable def c166_44_e : List Ct := [c162_8, c163_0, c167_70]
noncomputable def c166_44_pts : List PE := []
set_option maxRecDepth 100000 in
theorem c166_44_k : enCtF c166_44 c166_44_e (pkP (c166_44_pts ++ []) []) (none) ((hOr (hWpop 22 6) (hWz 42 6)), noM, 0, 4398050705408, 21) 3000 = true := by decide +kernel
set_option maxRecDepth 100000 in
theorem c166_44_v : ValidC PPk c166_44 := ct_ok fpk ⟨(hOr_ok (hWpop_ok 22 6) (hWz_ok 42 6)), noM_ok⟩ (d := 2) (ext := []) (pts := c166_44_pts) (env := c166_44_e) rfl (List.forall_mem_cons.mpr ⟨⟨c162_8_v, Nat.le_of_ble_eq_true rfl⟩, List.forall_mem_cons.mpr ⟨⟨c163_0_v, Nat.le_of_ble_eq_true rfl⟩, List.forall_mem_cons.mpr ⟨⟨c167_70_v, Nat.le_of_ble_eq_true rfl⟩, fun _ h => (by cases h)⟩⟩⟩) ext_nil (fun q h => (by cases h)) (enF c166_44_k) (fun _ h => (by cases h))

noncomputable def c162_38 : Ct := (162, 2, (21, (zt58 []), [((.negSucc 68), [(0, (.ofNat 1)), (1, (.ofNat 1))])], [qvR 0, qvK (.ofNat 2)], zh141, [(2, [1], []), (1, [1], []), (29, [6], [(sL 1), ((.ofNat 5), []), (sL 18), (sL 19), (sL 20)])]),
  [((23, [qtN 21 1 69, qtN 22 0 1], [((.ofNat 0), [(0, (.negSucc 0)), (1, (.negSucc 0)), (21, (.ofNat 1))]), ((.negSucc 68), [(0, (.ofNat 1)), (1, (.ofNat 1)), (21, (.negSucc 0))]), ((.negSucc 69), [(0, (.ofNat 1)), (1, (.ofNat 1)), (21, (.negSucc 0))]), ((.negSucc 69), [(0, (.ofNat 1)), (1, (.ofNat 1))]), ((.ofNat 0), [(1, (.negSucc 0)), (21, (.ofNat 1))]), ((.negSucc 0), [(1, (.negSucc 0)), (21, (.ofNat 1))])], [], zh143, [(2, [1], []), (1, [1], []), (29, [6], [(sL 21), ((.ofNat 5), []), (sL 18), ((.ofNat 0), []), (sL 22)])]), 0, 0)])
noncomputable def c162_38_e : List Ct := [c163_0, c164_0]
noncomputable def c162_38_p0 : PE := (0, [0, 1], (24, (zt59 []), [((.negSucc 68), [(0, (.ofNat 1)), (1, (.ofNat 1))]), ((.negSucc 69), [(0, (.ofNat 1)), (1, (.ofNat 1))]), ((.ofNat 0), [(0, (.negSucc 0)), (1, (.negSucc 0)), (21, (.ofNat 1))]), ((.negSucc 68), [(0, (.ofNat 1)), (1, (.ofNat 1)), (21, (.negSucc 0))]), ((.negSucc 69), [(0, (.ofNat 1)), (1, (.ofNat 1)), (21, (.negSucc 0))]), ((.ofNat 0), [(1, (.negSucc 0)), (21, (.ofNat 1))]), ((.negSucc 0), [(1, (.negSucc 0)), (21, (.ofNat 1))])], [qvR 0, qvK (.ofNat 2)], zh143, [(2, [1], []), (1, [1], []), (29, [6], [(sL 21), ((.ofNat 5), []), (sL 18), (sL 22), (sL 23)])]), symsL 21 0, some ((.ofNat 139), [(0, (.negSucc 0)), (1, (.negSucc 0)), (21, (.ofNat 1))]), 0, 0)
noncomputable def c162_38_pts : List PE := [c162_38_p0]
set_option maxRecDepth 100000 in
theorem c162_38_k : enCtF c162_38 c162_38_e (pkP (c162_38_pts ++ []) [0]) (none) ((hOr (hWpop 7 6) (hWz 52 6)), noM, 1, 4503599627370624, 21) 3000 = true := by decide +kernel
set_option maxRecDepth 100000 in
theorem c162_38_k0 : ptCtF c162_38 c162_38_e (pkP (c162_38_pts ++ []) [0]) ((hOr (hWpop 7 6) (hWz 52 6)), noM, 1, 4503599627370624, 21) 3000 c162_38_p0 = true := by decide +kernel
set_option maxRecDepth 100000 in
theorem c162_38_v : ValidC PPk c162_38 := ct_ok fpk ⟨(hOr_ok (hWpop_ok 7 6) (hWz_ok 52 6)), noM_ok⟩ (d := 1) (ext := []) (pts := c162_38_pts) (env := c162_38_e) rfl (List.forall_mem_cons.mpr ⟨⟨c163_0_v, Nat.le_of_ble_eq_true rfl⟩, List.forall_mem_cons.mpr ⟨⟨c164_0_v, Nat.le_of_ble_eq_true rfl⟩, fun _ h => (by cases h)⟩⟩) ext_nil (fun q h => (by cases h)) (enF c162_38_k) (List.forall_mem_cons.mpr ⟨⟨_, ptF c162_38_k0⟩, fun _ h => (by cases h)⟩)

noncomputable def c167_71 : Ct := (167, 1, (23, (zt62 []), [], [qvR 0, qvK (.ofNat 11)], zh144, [(2, [1], []), (1, [1], []), (29, [6], [(sL 1), ((.ofNat 5), []), (sL 20), (sL 21), (sL 22)])]),
  [((23, [], [], [], zh145, [(2, [1], []), (1, [1], []), (29, [6], [((.ofNat 1), [(1, (.ofNat 1))]), ((.ofNat 5), []), (sL 20), (sL 21), ((.ofNat 2), [])])]), 0, 0)])
noncomputable def c167_71_e : List Ct := []
noncomputable def c167_71_pts : List PE := []
set_option maxRecDepth 100000 in
theorem c167_71_k : enCtF c167_71 c167_71_e (pkP (c167_71_pts ++ []) []) (none) (noF, (mWst 9), 0, 512, 23) 3000 = true := by decide +kernel
set_option maxRecDepth 100000 in
theorem c167_71_v : ValidC PPk c167_71 := ct_ok fpk ⟨noF_ok, (mWst_ok 9)⟩ (d := 0) (ext := []) (pts := c167_71_pts) (env := c167_71_e) rfl (fun _ h => (by cases h)) ext_nil (fun q h => (by cases h)) (enF c167_71_k) (fun _ h => (by cases h))

noncomputable def c166_45 : Ct := (166, 3, (21, (zt58 []), [((.negSucc 68), [(0, (.ofNat 1)), (1, (.ofNat 1))])], [qvR 0, qvK (.ofNat 11)], zh141, [(2, [1], []), (1, [1], []), (29, [6], [(sL 1), ((.ofNat 5), []), (sL 18), (sL 19), (sL 20)])]),
  [((22, [qtN 1 1 69, qtN 21 2 70], [((.negSucc 69), [(0, (.ofNat 1)), (1, (.ofNat 1))]), ((.negSucc 1), [(1, (.negSucc 0)), (21, (.ofNat 1))]), ((.negSucc 0), [(1, (.negSucc 0)), (21, (.ofNat 1))]), ((.negSucc 68), [(0, (.ofNat 1)), (1, (.ofNat 1)), (21, (.negSucc 0))]), ((.negSucc 67), [(0, (.ofNat 1)), (1, (.ofNat 1)), (21, (.negSucc 0))]), ((.negSucc 0), [(0, (.negSucc 0)), (1, (.negSucc 0)), (21, (.ofNat 1))])], [qvK (.ofNat 1)], zh146, [(2, [1], []), (1, [1], []), (29, [6], [(sL 21), ((.ofNat 5), []), (sL 18), ((.ofNat 0), []), ((.ofNat 2), [])])]), 0, 0)])
noncomputable def c166_45_e : List Ct := [c162_38, c163_0, c167_71]
noncomputable def c166_45_pts : List PE := []
set_option maxRecDepth 100000 in
theorem c166_45_k : enCtF c166_45 c166_45_e (pkP (c166_45_pts ++ []) []) (none) ((hOr (hWpop 22 6) (hWz 42 6)), noM, 0, 4398050705408, 21) 3000 = true := by decide +kernel
set_option maxRecDepth 100000 in
theorem c166_45_v : ValidC PPk c166_45 := ct_ok fpk ⟨(hOr_ok (hWpop_ok 22 6) (hWz_ok 42 6)), noM_ok⟩ (d := 2) (ext := []) (pts := c166_45_pts) (env := c166_45_e) rfl (List.forall_mem_cons.mpr ⟨⟨c162_38_v, Nat.le_of_ble_eq_true rfl⟩, List.forall_mem_cons.mpr ⟨⟨c163_0_v, Nat.le_of_ble_eq_true rfl⟩, List.forall_mem_cons.mpr ⟨⟨c167_71_v, Nat.le_of_ble_eq_true rfl⟩, fun _ h => (by cases h)⟩⟩⟩) ext_nil (fun q h => (by cases h)) (enF c166_45_k) (fun _ h => (by cases h))

noncomputable def c162_39 : Ct := (162, 2, (21, (zt58 []), [((.negSucc 68), [(0, (.ofNat 1)), (1, (.ofNat 1))])], [qvR 0, qvK (.ofNat 5)], zh141, [(2, [1], []), (1, [1], []), (29, [6], [(sL 1), ((.ofNat 5), []), (sL 18), (sL 19), (sL 20)])]),
  [((23, [qtN 21 1 69, qtN 22 0 4], [((.ofNat 0), [(0, (.negSucc 0)), (1, (.negSucc 0)), (21, (.ofNat 1))]), ((.negSucc 68), [(0, (.ofNat 1)), (1, (.ofNat 1)), (21, (.negSucc 0))]), ((.negSucc 69), [(0, (.ofNat 1)), (1, (.ofNat 1)), (21, (.negSucc 0))]), ((.negSucc 69), [(0, (.ofNat 1)), (1, (.ofNat 1))]), ((.ofNat 0), [(1, (.negSucc 0)), (21, (.ofNat 1))]), ((.negSucc 0), [(1, (.negSucc 0)), (21, (.ofNat 1))])], [], zh143, [(2, [1], []), (1, [1], []), (29, [6], [(sL 21), ((.ofNat 5), []), (sL 18), (sL 19), (sL 22)])]), 0, 0)])
noncomputable def c162_39_e : List Ct := [c163_0, c164_0]
noncomputable def c162_39_p0 : PE := (0, [0, 1], (23, (zt61 []), [((.negSucc 68), [(0, (.ofNat 1)), (1, (.ofNat 1))]), ((.negSucc 69), [(0, (.ofNat 1)), (1, (.ofNat 1))]), ((.ofNat 0), [(0, (.negSucc 0)), (1, (.negSucc 0)), (21, (.ofNat 1))]), ((.negSucc 68), [(0, (.ofNat 1)), (1, (.ofNat 1)), (21, (.negSucc 0))]), ((.negSucc 69), [(0, (.ofNat 1)), (1, (.ofNat 1)), (21, (.negSucc 0))]), ((.ofNat 0), [(1, (.negSucc 0)), (21, (.ofNat 1))]), ((.negSucc 0), [(1, (.negSucc 0)), (21, (.ofNat 1))])], [qvR 0, qvK (.ofNat 5)], zh143, [(2, [1], []), (1, [1], []), (29, [6], [(sL 21), ((.ofNat 5), []), (sL 18), (sL 19), (sL 22)])]), symsL 21 0, some ((.ofNat 139), [(0, (.negSucc 0)), (1, (.negSucc 0)), (21, (.ofNat 1))]), 0, 0)
noncomputable def c162_39_pts : List PE := [c162_39_p0]
set_option maxRecDepth 100000 in
theorem c162_39_k : enCtF c162_39 c162_39_e (pkP (c162_39_pts ++ []) [0]) (none) ((hOr (hWpop 7 6) (hWz 52 6)), noM, 1, 4503599627370624, 21) 3000 = true := by decide +kernel
set_option maxRecDepth 100000 in
theorem c162_39_k0 : ptCtF c162_39 c162_39_e (pkP (c162_39_pts ++ []) [0]) ((hOr (hWpop 7 6) (hWz 52 6)), noM, 1, 4503599627370624, 21) 3000 c162_39_p0 = true := by decide +kernel
set_option maxRecDepth 100000 in
theorem c162_39_v : ValidC PPk c162_39 := ct_ok fpk ⟨(hOr_ok (hWpop_ok 7 6) (hWz_ok 52 6)), noM_ok⟩ (d := 1) (ext := []) (pts := c162_39_pts) (env := c162_39_e) rfl (List.forall_mem_cons.mpr ⟨⟨c163_0_v, Nat.le_of_ble_eq_true rfl⟩, List.forall_mem_cons.mpr ⟨⟨c164_0_v, Nat.le_of_ble_eq_true rfl⟩, fun _ h => (by cases h)⟩⟩) ext_nil (fun q h => (by cases h)) (enF c162_39_k) (List.forall_mem_cons.mpr ⟨⟨_, ptF c162_39_k0⟩, fun _ h => (by cases h)⟩)

noncomputable def c167_72 : Ct := (167, 1, (23, (zt63 []), [], [qvR 0, qvK (.ofNat 4)], zh144, [(2, [1], []), (1, [1], []), (29, [6], [(sL 1), ((.ofNat 5), []), (sL 20), (sL 21), (sL 22)])]),
  [((23, [], [], [], zh145, [(2, [1], []), (1, [1], []), (29, [6], [((.ofNat 1), [(1, (.ofNat 1))]), ((.ofNat 5), []), (sL 20), (sL 21), ((.ofNat 5), [])])]), 0, 0)])
noncomputable def c167_72_e : List Ct := []
noncomputable def c167_72_pts : List PE := []
set_option maxRecDepth 100000 in
theorem c167_72_k : enCtF c167_72 c167_72_e (pkP (c167_72_pts ++ []) []) (none) (noF, (mWst 9), 0, 512, 23) 3000 = true := by decide +kernel
set_option maxRecDepth 100000 in
theorem c167_72_v : ValidC PPk c167_72 := ct_ok fpk ⟨noF_ok, (mWst_ok 9)⟩ (d := 0) (ext := []) (pts := c167_72_pts) (env := c167_72_e) rfl (fun _ h => (by cases h)) ext_nil (fun q h => (by cases h)) (enF c167_72_k) (fun _ h => (by cases h))

noncomputable def c166_46 : Ct := (166, 3, (21, (zt58 []), [((.negSucc 68), [(0, (.ofNat 1)), (1, (.ofNat 1))])], [qvR 0, qvK (.ofNat 4)], zh141, [(2, [1], []), (1, [1], []), (29, [6], [(sL 1), ((.ofNat 5), []), (sL 18), (sL 19), (sL 20)])]),
  [((22, [qtN 1 1 69, qtN 21 2 70], [((.negSucc 69), [(0, (.ofNat 1)), (1, (.ofNat 1))]), ((.negSucc 1), [(1, (.negSucc 0)), (21, (.ofNat 1))]), ((.negSucc 0), [(1, (.negSucc 0)), (21, (.ofNat 1))]), ((.negSucc 68), [(0, (.ofNat 1)), (1, (.ofNat 1)), (21, (.negSucc 0))]), ((.negSucc 67), [(0, (.ofNat 1)), (1, (.ofNat 1)), (21, (.negSucc 0))]), ((.negSucc 0), [(0, (.negSucc 0)), (1, (.negSucc 0)), (21, (.ofNat 1))])], [qvK (.ofNat 1)], zh146, [(2, [1], []), (1, [1], []), (29, [6], [(sL 21), ((.ofNat 5), []), (sL 18), (sL 19), ((.ofNat 5), [])])]), 0, 0)])
noncomputable def c166_46_e : List Ct := [c162_39, c163_0, c167_72]
noncomputable def c166_46_pts : List PE := []
set_option maxRecDepth 100000 in
theorem c166_46_k : enCtF c166_46 c166_46_e (pkP (c166_46_pts ++ []) []) (none) ((hOr (hWpop 22 6) (hWz 42 6)), noM, 0, 4398050705408, 21) 3000 = true := by decide +kernel
set_option maxRecDepth 100000 in
theorem c166_46_v : ValidC PPk c166_46 := ct_ok fpk ⟨(hOr_ok (hWpop_ok 22 6) (hWz_ok 42 6)), noM_ok⟩ (d := 2) (ext := []) (pts := c166_46_pts) (env := c166_46_e) rfl (List.forall_mem_cons.mpr ⟨⟨c162_39_v, Nat.le_of_ble_eq_true rfl⟩, List.forall_mem_cons.mpr ⟨⟨c163_0_v, Nat.le_of_ble_eq_true rfl⟩, List.forall_mem_cons.mpr ⟨⟨c167_72_v, Nat.le_of_ble_eq_true rfl⟩, fun _ h => (by cases h)⟩⟩⟩) ext_nil (fun q h => (by cases h)) (enF c166_46_k) (fun _ h => (by cases h))

noncomputable def c162_40 : Ct := (162, 2, (21, (zt58 []), [((.negSucc 68), [(0, (.ofNat 1)), (1, (.ofNat 1))])], [qvR 0, qvK (.ofNat 4)], zh141, [(2, [1], []), (1, [1], []), (29, [6], [(sL 1), ((.ofNat 5), []), (sL 18), (sL 19), (sL 20)])]),
  [((23, [qtN 21 1 69, qtN 22 0 3], [((.ofNat 0), [(0, (.negSucc 0)), (1, (.negSucc 0)), (21, (.ofNat 1))]), ((.negSucc 68), [(0, (.ofNat 1)), (1, (.ofNat 1)), (21, (.negSucc 0))]), ((.negSucc 69), [(0, (.ofNat 1)), (1, (.ofNat 1)), (21, (.negSucc 0))]), ((.negSucc 69), [(0, (.ofNat 1)), (1, (.ofNat 1))]), ((.ofNat 0), [(1, (.negSucc 0)), (21, (.ofNat 1))]), ((.negSucc 0), [(1, (.negSucc 0)), (21, (.ofNat 1))])], [], zh143, [(2, [1], []), (1, [1], []), (29, [6], [(sL 21), ((.ofNat 5), []), (sL 18), (sL 19), (sL 22)])]), 0, 0)])
noncomputable def c162_40_e : List Ct := [c163_0, c164_0]
noncomputable def c162_40_p0 : PE := (0, [0, 1], (23, (zt61 []), [((.negSucc 68), [(0, (.ofNat 1)), (1, (.ofNat 1))]), ((.negSucc 69), [(0, (.ofNat 1)), (1, (.ofNat 1))]), ((.ofNat 0), [(0, (.negSucc 0)), (1, (.negSucc 0)), (21, (.ofNat 1))]), ((.negSucc 68), [(0, (.ofNat 1)), (1, (.ofNat 1)), (21, (.negSucc 0))]), ((.negSucc 69), [(0, (.ofNat 1)), (1, (.ofNat 1)), (21, (.negSucc 0))]), ((.ofNat 0), [(1, (.negSucc 0)), (21, (.ofNat 1))]), ((.negSucc 0), [(1, (.negSucc 0)), (21, (.ofNat 1))])], [qvR 0, qvK (.ofNat 4)], zh143, [(2, [1], []), (1, [1], []), (29, [6], [(sL 21), ((.ofNat 5), []), (sL 18), (sL 19), (sL 22)])]), symsL 21 0, some ((.ofNat 139), [(0, (.negSucc 0)), (1, (.negSucc 0)), (21, (.ofNat 1))]), 0, 0)
noncomputable def c162_40_pts : List PE := [c162_40_p0]
set_option maxRecDepth 100000 in
theorem c162_40_k : enCtF c162_40 c162_40_e (pkP (c162_40_pts ++ []) [0]) (none) ((hOr (hWpop 7 6) (hWz 52 6)), noM, 1, 4503599627370624, 21) 3000 = true := by decide +kernel
set_option maxRecDepth 100000 in
theorem c162_40_k0 : ptCtF c162_40 c162_40_e (pkP (c162_40_pts ++ []) [0]) ((hOr (hWpop 7 6) (hWz 52 6)), noM, 1, 4503599627370624, 21) 3000 c162_40_p0 = true := by decide +kernel
set_option maxRecDepth 100000 in
theorem c162_40_v : ValidC PPk c162_40 := ct_ok fpk ⟨(hOr_ok (hWpop_ok 7 6) (hWz_ok 52 6)), noM_ok⟩ (d := 1) (ext := []) (pts := c162_40_pts) (env := c162_40_e) rfl (List.forall_mem_cons.mpr ⟨⟨c163_0_v, Nat.le_of_ble_eq_true rfl⟩, List.forall_mem_cons.mpr ⟨⟨c164_0_v, Nat.le_of_ble_eq_true rfl⟩, fun _ h => (by cases h)⟩⟩) ext_nil (fun q h => (by cases h)) (enF c162_40_k) (List.forall_mem_cons.mpr ⟨⟨_, ptF c162_40_k0⟩, fun _ h => (by cases h)⟩)

noncomputable def c167_73 : Ct := (167, 1, (23, (zt64 []), [], [qvR 0, qvK (.ofNat 6)], zh144, [(2, [1], []), (1, [1], []), (29, [6], [(sL 1), ((.ofNat 5), []), (sL 20), (sL 21), (sL 22)])]),
  [((23, [], [], [], zh145, [(2, [1], []), (1, [1], []), (29, [6], [((.ofNat 1), [(1, (.ofNat 1))]), ((.ofNat 5), []), (sL 20), (sL 21), ((.ofNat 4), [])])]), 0, 0)])
noncomputable def c167_73_e : List Ct := []
noncomputable def c167_73_pts : List PE := []
set_option maxRecDepth 100000 in
theorem c167_73_k : enCtF c167_73 c167_73_e (pkP (c167_73_pts ++ []) []) (none) (noF, (mWst 9), 0, 512, 23) 3000 = true := by decide +kernel
set_option maxRecDepth 100000 in
theorem c167_73_v : ValidC PPk c167_73 := ct_ok fpk ⟨noF_ok, (mWst_ok 9)⟩ (d := 0) (ext := []) (pts := c167_73_pts) (env := c167_73_e) rfl (fun _ h => (by cases h)) ext_nil (fun q h => (by cases h)) (enF c167_73_k) (fun _ h => (by cases h))

noncomputable def c166_47 : Ct := (166, 3, (21, (zt58 []), [((.negSucc 68), [(0, (.ofNat 1)), (1, (.ofNat 1))])], [qvR 0, qvK (.ofNat 6)], zh141, [(2, [1], []), (1, [1], []), (29, [6], [(sL 1), ((.ofNat 5), []), (sL 18), (sL 19), (sL 20)])]),
  [((22, [qtN 1 1 69, qtN 21 2 70], [((.negSucc 69), [(0, (.ofNat 1)), (1, (.ofNat 1))]), ((.negSucc 1), [(1, (.negSucc 0)), (21, (.ofNat 1))]), ((.negSucc 0), [(1, (.negSucc 0)), (21, (.ofNat 1))]), ((.negSucc 68), [(0, (.ofNat 1)), (1, (.ofNat 1)), (21, (.negSucc 0))]), ((.negSucc 67), [(0, (.ofNat 1)), (1, (.ofNat 1)), (21, (.negSucc 0))]), ((.negSucc 0), [(0, (.negSucc 0)), (1, (.negSucc 0)), (21, (.ofNat 1))])], [qvK (.ofNat 1)], zh146, [(2, [1], []), (1, [1], []), (29, [6], [(sL 21), ((.ofNat 5), []), (sL 18), (sL 19), ((.ofNat 4), [])])]), 0, 0)])
noncomputable def c166_47_e : List Ct := [c162_40, c163_0, c167_73]
noncomputable def c166_47_pts : List PE := []
set_option maxRecDepth 100000 in
theorem c166_47_k : enCtF c166_47 c166_47_e (pkP (c166_47_pts ++ []) []) (none) ((hOr (hWpop 22 6) (hWz 42 6)), noM, 0, 4398050705408, 21) 3000 = true := by decide +kernel
set_option maxRecDepth 100000 in
theorem c166_47_v : ValidC PPk c166_47 := ct_ok fpk ⟨(hOr_ok (hWpop_ok 22 6) (hWz_ok 42 6)), noM_ok⟩ (d := 2) (ext := []) (pts := c166_47_pts) (env := c166_47_e) rfl (List.forall_mem_cons.mpr ⟨⟨c162_40_v, Nat.le_of_ble_eq_true rfl⟩, List.forall_mem_cons.mpr ⟨⟨c163_0_v, Nat.le_of_ble_eq_true rfl⟩, List.forall_mem_cons.mpr ⟨⟨c167_73_v, Nat.le_of_ble_eq_true rfl⟩, fun _ h => (by cases h)⟩⟩⟩) ext_nil (fun q h => (by cases h)) (enF c166_47_k) (fun _ h => (by cases h))

noncomputable def c167_74 : Ct := (167, 1, (23, (zt64 []), [], [qvR 0, qvK (.ofNat 7)], zh144, [(2, [1], []), (1, [1], []), (29, [6], [(sL 1), ((.ofNat 5), []), (sL 20), (sL 21), (sL 22)])]),
  [((23, [], [], [], zh145, [(2, [1], []), (1, [1], []), (29, [6], [((.ofNat 1), [(1, (.ofNat 1))]), ((.ofNat 5), []), (sL 20), (sL 21), ((.ofNat 4), [])])]), 0, 0)])
noncomputable def c167_74_e : List Ct := []
noncomputable def c167_74_pts : List PE := []
set_option maxRecDepth 100000 in
theorem c167_74_k : enCtF c167_74 c167_74_e (pkP (c167_74_pts ++ []) []) (none) (noF, (mWst 9), 0, 512, 23) 3000 = true := by decide +kernel
set_option maxRecDepth 100000 in
theorem c167_74_v : ValidC PPk c167_74 := ct_ok fpk ⟨noF_ok, (mWst_ok 9)⟩ (d := 0) (ext := []) (pts := c167_74_pts) (env := c167_74_e) rfl (fun _ h => (by cases h)) ext_nil (fun q h => (by cases h)) (enF c167_74_k) (fun _ h => (by cases h))

noncomputable def c166_48 : Ct := (166, 3, (21, (zt58 []), [((.negSucc 68), [(0, (.ofNat 1)), (1, (.ofNat 1))])], [qvR 0, qvK (.ofNat 7)], zh141, [(2, [1], []), (1, [1], []), (29, [6], [(sL 1), ((.ofNat 5), []), (sL 18), (sL 19), (sL 20)])]),
  [((22, [qtN 1 1 69, qtN 21 2 70], [((.negSucc 69), [(0, (.ofNat 1)), (1, (.ofNat 1))]), ((.negSucc 1), [(1, (.negSucc 0)), (21, (.ofNat 1))]), ((.negSucc 0), [(1, (.negSucc 0)), (21, (.ofNat 1))]), ((.negSucc 68), [(0, (.ofNat 1)), (1, (.ofNat 1)), (21, (.negSucc 0))]), ((.negSucc 67), [(0, (.ofNat 1)), (1, (.ofNat 1)), (21, (.negSucc 0))]), ((.negSucc 0), [(0, (.negSucc 0)), (1, (.negSucc 0)), (21, (.ofNat 1))])], [qvK (.ofNat 1)], zh146, [(2, [1], []), (1, [1], []), (29, [6], [(sL 21), ((.ofNat 5), []), (sL 18), (sL 19), ((.ofNat 4), [])])]), 0, 0)])
noncomputable def c166_48_e : List Ct := [c162_40, c163_0, c167_74]
noncomputable def c166_48_pts : List PE := []
set_option maxRecDepth 100000 in
theorem c166_48_k : enCtF c166_48 c166_48_e (pkP (c166_48_pts ++ []) []) (none) ((hOr (hWpop 22 6) (hWz 42 6)), noM, 0, 4398050705408, 21) 3000 = true := by decide +kernel
set_option maxRecDepth 100000 in
theorem c166_48_v : ValidC PPk c166_48 := ct_ok fpk ⟨(hOr_ok (hWpop_ok 22 6) (hWz_ok 42 6)), noM_ok⟩ (d := 2) (ext := []) (pts := c166_48_pts) (env := c166_48_e) rfl (List.forall_mem_cons.mpr ⟨⟨c162_40_v, Nat.le_of_ble_eq_true rfl⟩, List.forall_mem_cons.mpr ⟨⟨c163_0_v, Nat.le_of_ble_eq_true rfl⟩, List.forall_mem_cons.mpr ⟨⟨c167_74_v, Nat.le_of_ble_eq_true rfl⟩, fun _ h => (by cases h)⟩⟩⟩) ext_nil (fun q h => (by cases h)) (enF c166_48_k) (fun _ h => (by cases h))

noncomputable def c167_75 : Ct := (167, 1, (23, (zt63 []), [], [qvR 0, qvK (.ofNat 5)], zh144, [(2, [1], []), (1, [1], []), (29, [6], [(sL 1), ((.ofNat 5), []), (sL 20), (sL 21), (sL 22)])]),
  [((23, [], [], [], zh145, [(2, [1], []), (1, [1], []), (29, [6], [((.ofNat 1), [(1, (.ofNat 1))]), ((.ofNat 5), []), (sL 20), (sL 21), ((.ofNat 5), [])])]), 0, 0)])
noncomputable def c167_75_e : List Ct := []
noncomputable def c167_75_pts : List PE := []
set_option maxRecDepth 100000 in
theorem c167_75_k : enCtF c167_75 c167_75_e (pkP (c167_75_pts ++ []) []) (none) (noF, (mWst 9), 0, 512, 23) 3000 = true := by decide +kernel
set_option maxRecDepth 100000 in
theorem c167_75_v : ValidC PPk c167_75 := ct_ok fpk ⟨noF_ok, (mWst_ok 9)⟩ (d := 0) (ext := []) (pts := c167_75_pts) (env := c167_75_e) rfl (fun _ h => (by cases h)) ext_nil (fun q h => (by cases h)) (enF c167_75_k) (fun _ h => (by cases h))

noncomputable def c166_49 : Ct := (166, 3, (21, (zt58 []), [((.negSucc 68), [(0, (.ofNat 1)), (1, (.ofNat 1))])], [qvR 0, qvK (.ofNat 5)], zh141, [(2, [1], []), (1, [1], []), (29, [6], [(sL 1), ((.ofNat 5), []), (sL 18), (sL 19), (sL 20)])]),
  [((22, [qtN 1 1 69, qtN 21 2 70], [((.negSucc 69), [(0, (.ofNat 1)), (1, (.ofNat 1))]), ((.negSucc 1), [(1, (.negSucc 0)), (21, (.ofNat 1))]), ((.negSucc 0), [(1, (.negSucc 0)), (21, (.ofNat 1))]), ((.negSucc 68), [(0, (.ofNat 1)), (1, (.ofNat 1)), (21, (.negSucc 0))]), ((.negSucc 67), [(0, (.ofNat 1)), (1, (.ofNat 1)), (21, (.negSucc 0))]), ((.negSucc 0), [(0, (.negSucc 0)), (1, (.negSucc 0)), (21, (.ofNat 1))])], [qvK (.ofNat 1)], zh146, [(2, [1], []), (1, [1], []), (29, [6], [(sL 21), ((.ofNat 5), []), (sL 18), (sL 19), ((.ofNat 5), [])])]), 0, 0)])
noncomputable def c166_49_e : List Ct := [c162_39, c163_0, c167_75]
noncomputable def c166_49_pts : List PE := []
set_option maxRecDepth 100000 in
theorem c166_49_k : enCtF c166_49 c166_49_e (pkP (c166_49_pts ++ []) []) (none) ((hOr (hWpop 22 6) (hWz 42 6)), noM, 0, 4398050705408, 21) 3000 = true := by decide +kernel
set_option maxRecDepth 100000 in
theorem c166_49_v : ValidC PPk c166_49 := ct_ok fpk ⟨(hOr_ok (hWpop_ok 22 6) (hWz_ok 42 6)), noM_ok⟩ (d := 2) (ext := []) (pts := c166_49_pts) (env := c166_49_e) rfl (List.forall_mem_cons.mpr ⟨⟨c162_39_v, Nat.le_of_ble_eq_true rfl⟩, List.forall_mem_cons.mpr ⟨⟨c163_0_v, Nat.le_of_ble_eq_true rfl⟩, List.forall_mem_cons.mpr ⟨⟨c167_75_v, Nat.le_of_ble_eq_true rfl⟩, fun _ h => (by cases h)⟩⟩⟩) ext_nil (fun q h => (by cases h)) (enF c166_49_k) (fun _ h => (by cases h))

noncomputable def c162_41 : Ct := (162, 2, (21, (zt58 []), [((.negSucc 68), [(0, (.ofNat 1)), (1, (.ofNat 1))])], [qvR 0, qvK (.ofNat 3)], zh141, [(2, [1], []), (1, [1], []), (29, [6], [(sL 1), ((.ofNat 5), []), (sL 18), (sL 19), (sL 20)])]),
  [((23, [qtN 21 1 69, qtN 22 0 2], [((.ofNat 0), [(0, (.negSucc 0)), (1, (.negSucc 0)), (21, (.ofNat 1))]), ((.negSucc 68), [(0, (.ofNat 1)), (1, (.ofNat 1)), (21, (.negSucc 0))]), ((.negSucc 69), [(0, (.ofNat 1)), (1, (.ofNat 1)), (21, (.negSucc 0))]), ((.negSucc 69), [(0, (.ofNat 1)), (1, (.ofNat 1))]), ((.ofNat 0), [(1, (.negSucc 0)), (21, (.ofNat 1))]), ((.negSucc 0), [(1, (.negSucc 0)), (21, (.ofNat 1))])], [], zh143, [(2, [1], []), (1, [1], []), (29, [6], [(sL 21), ((.ofNat 5), []), (sL 18), ((.ofNat 0), []), (sL 22)])]), 0, 0)])
noncomputable def c162_41_e : List Ct := [c163_0, c164_0]
noncomputable def c162_41_p0 : PE := (0, [0, 1], (24, (zt59 []), [((.negSucc 68), [(0, (.ofNat 1)), (1, (.ofNat 1))]), ((.negSucc 69), [(0, (.ofNat 1)), (1, (.ofNat 1))]), ((.ofNat 0), [(0, (.negSucc 0)), (1, (.negSucc 0)), (21, (.ofNat 1))]), ((.negSucc 68), [(0, (.ofNat 1)), (1, (.ofNat 1)), (21, (.negSucc 0))]), ((.negSucc 69), [(0, (.ofNat 1)), (1, (.ofNat 1)), (21, (.negSucc 0))]), ((.ofNat 0), [(1, (.negSucc 0)), (21, (.ofNat 1))]), ((.negSucc 0), [(1, (.negSucc 0)), (21, (.ofNat 1))])], [qvR 0, qvK (.ofNat 3)], zh143, [(2, [1], []), (1, [1], []), (29, [6], [(sL 21), ((.ofNat 5), []), (sL 18), (sL 22), (sL 23)])]), symsL 21 0, some ((.ofNat 139), [(0, (.negSucc 0)), (1, (.negSucc 0)), (21, (.ofNat 1))]), 0, 0)
noncomputable def c162_41_pts : List PE := [c162_41_p0]
set_option maxRecDepth 100000 in
theorem c162_41_k : enCtF c162_41 c162_41_e (pkP (c162_41_pts ++ []) [0]) (none) ((hOr (hWpop 7 6) (hWz 52 6)), noM, 1, 4503599627370624, 21) 3000 = true := by decide +kernel
set_option maxRecDepth 100000 in
theorem c162_41_k0 : ptCtF c162_41 c162_41_e (pkP (c162_41_pts ++ []) [0]) ((hOr (hWpop 7 6) (hWz 52 6)), noM, 1, 4503599627370624, 21) 3000 c162_41_p0 = true := by decide +kernel
set_option maxRecDepth 100000 in
theorem c162_41_v : ValidC PPk c162_41 := ct_ok fpk ⟨(hOr_ok (hWpop_ok 7 6) (hWz_ok 52 6)), noM_ok⟩ (d := 1) (ext := []) (pts := c162_41_pts) (env := c162_41_e) rfl (List.forall_mem_cons.mpr ⟨⟨c163_0_v, Nat.le_of_ble_eq_true rfl⟩, List.forall_mem_cons.mpr ⟨⟨c164_0_v, Nat.le_of_ble_eq_true rfl⟩, fun _ h => (by cases h)⟩⟩) ext_nil (fun q h => (by cases h)) (enF c162_41_k) (List.forall_mem_cons.mpr ⟨⟨_, ptF c162_41_k0⟩, fun _ h => (by cases h)⟩)

noncomputable def c167_76 : Ct := (167, 1, (23, (zt65 []), [], [qvR 0, qvK (.ofNat 8)], zh144, [(2, [1], []), (1, [1], []), (29, [6], [(sL 1), ((.ofNat 5), []), (sL 20), (sL 21), (sL 22)])]),
  [((23, [], [], [], zh145, [(2, [1], []), (1, [1], []), (29, [6], [((.ofNat 1), [(1, (.ofNat 1))]), ((.ofNat 5), []), (sL 20), ((.ofNat 1), []), ((.ofNat 3), [])])]), 0, 0)])
noncomputable def c167_76_e : List Ct := []
noncomputable def c167_76_pts : List PE := []
set_option maxRecDepth 100000 in
theorem c167_76_k : enCtF c167_76 c167_76_e (pkP (c167_76_pts ++ []) []) (none) (noF, (mWst 9), 0, 512, 23) 3000 = true := by decide +kernel
set_option maxRecDepth 100000 in
theorem c167_76_v : ValidC PPk c167_76 := ct_ok fpk ⟨noF_ok, (mWst_ok 9)⟩ (d := 0) (ext := []) (pts := c167_76_pts) (env := c167_76_e) rfl (fun _ h => (by cases h)) ext_nil (fun q h => (by cases h)) (enF c167_76_k) (fun _ h => (by cases h))

noncomputable def c166_50 : Ct := (166, 3, (21, (zt58 []), [((.negSucc 68), [(0, (.ofNat 1)), (1, (.ofNat 1))])], [qvR 0, qvK (.ofNat 8)], zh141, [(2, [1], []), (1, [1], []), (29, [6], [(sL 1), ((.ofNat 5), []), (sL 18), (sL 19), (sL 20)])]),
  [((22, [qtN 1 1 69, qtN 19 0 0, qtN 21 2 70], [((.negSucc 69), [(0, (.ofNat 1)), (1, (.ofNat 1))]), ((.negSucc 0), [(0, (.negSucc 0)), (1, (.negSucc 0)), (21, (.ofNat 1))]), ((.negSucc 67), [(0, (.ofNat 1)), (1, (.ofNat 1)), (21, (.negSucc 0))]), ((.negSucc 68), [(0, (.ofNat 1)), (1, (.ofNat 1)), (21, (.negSucc 0))])], [qvK (.ofNat 1)], zh146, [(2, [1], []), (1, [1], []), (29, [6], [(sL 21), ((.ofNat 5), []), (sL 18), ((.ofNat 1), []), ((.ofNat 3), [])])]), 0, 0),
   ((22, [qtN 1 1 69, qtN 19 1 1, qtN 21 1 69], [((.negSucc 69), [(0, (.ofNat 1)), (1, (.ofNat 1))]), ((.negSucc 0), [(1, (.negSucc 0)), (21, (.ofNat 1))]), ((.ofNat 0), [(1, (.negSucc 0)), (21, (.ofNat 1))]), ((.negSucc 69), [(0, (.ofNat 1)), (1, (.ofNat 1)), (21, (.negSucc 0))]), ((.negSucc 68), [(0, (.ofNat 1)), (1, (.ofNat 1)), (21, (.negSucc 0))]), ((.ofNat 0), [(0, (.negSucc 0)), (1, (.negSucc 0)), (21, (.ofNat 1))])], [qvK (.ofNat 0)], zh143, [(2, [1], []), (1, [1], []), (29, [6], [(sL 21), ((.ofNat 5), []), (sL 18), (sL 19), ((.ofNat 3), [])])]), 0, 0)])
noncomputable def c166_50_e : List Ct := [c162_40, c162_41, c163_0, c167_76]
noncomputable def c166_50_pts : List PE := []
set_option maxRecDepth 100000 in
theorem c166_50_k : enCtF c166_50 c166_50_e (pkP (c166_50_pts ++ []) []) (none) ((hOr (hWpop 22 6) (hWz 42 6)), noM, 0, 4398050705408, 21) 3000 = true := by decide +kernel
set_option maxRecDepth 100000 in
theorem c166_50_v : ValidC PPk c166_50 := ct_ok fpk ⟨(hOr_ok (hWpop_ok 22 6) (hWz_ok 42 6)), noM_ok⟩ (d := 2) (ext := []) (pts := c166_50_pts) (env := c166_50_e) rfl (List.forall_mem_cons.mpr ⟨⟨c162_40_v, Nat.le_of_ble_eq_true rfl⟩, List.forall_mem_cons.mpr ⟨⟨c162_41_v, Nat.le_of_ble_eq_true rfl⟩, List.forall_mem_cons.mpr ⟨⟨c163_0_v, Nat.le_of_ble_eq_true rfl⟩, List.forall_mem_cons.mpr ⟨⟨c167_76_v, Nat.le_of_ble_eq_true rfl⟩, fun _ h => (by cases h)⟩⟩⟩⟩) ext_nil (fun q h => (by cases h)) (enF c166_50_k) (fun _ h => (by cases h))

noncomputable def c167_77 : Ct := (167, 1, (23, (zt65 []), [], [qvR 0, qvK (.ofNat 10)], zh144, [(2, [1], []), (1, [1], []), (29, [6], [(sL 1), ((.ofNat 5), []), (sL 20), (sL 21), (sL 22)])]),
  [((23, [], [], [], zh145, [(2, [1], []), (1, [1], []), (29, [6], [((.ofNat 1), [(1, (.ofNat 1))]), ((.ofNat 5), []), (sL 20), ((.ofNat 1), []), ((.ofNat 3), [])])]), 0, 0)])
noncomputable def c167_77_e : List Ct := []
noncomputable def c167_77_pts : List PE := []
set_option maxRecDepth 100000 in
theorem c167_77_k : enCtF c167_77 c167_77_e (pkP (c167_77_pts ++ []) []) (none) (noF, (mWst 9), 0, 512, 23) 3000 = true := by decide +kernel
set_option maxRecDepth 100000 in
theorem c167_77_v : ValidC PPk c167_77 := ct_ok fpk ⟨noF_ok, (mWst_ok 9)⟩ (d := 0) (ext := []) (pts := c167_77_pts) (env := c167_77_e) rfl (fun _ h => (by cases h)) ext_nil (fun q h => (by cases h)) (enF c167_77_k) (fun _ h => (by cases h))

noncomputable def c166_51 : Ct := (166, 3, (21, (zt58 []), [((.negSucc 68), [(0, (.ofNat 1)), (1, (.ofNat 1))])], [qvR 0, qvK (.ofNat 10)], zh141, [(2, [1], []), (1, [1], []), (29, [6], [(sL 1), ((.ofNat 5), []), (sL 18), (sL 19), (sL 20)])]),
  [((22, [qtN 1 1 69, qtN 19 0 0, qtN 21 2 70], [((.negSucc 69), [(0, (.ofNat 1)), (1, (.ofNat 1))]), ((.negSucc 0), [(0, (.negSucc 0)), (1, (.negSucc 0)), (21, (.ofNat 1))]), ((.negSucc 67), [(0, (.ofNat 1)), (1, (.ofNat 1)), (21, (.negSucc 0))]), ((.negSucc 68), [(0, (.ofNat 1)), (1, (.ofNat 1)), (21, (.negSucc 0))])], [qvK (.ofNat 1)], zh146, [(2, [1], []), (1, [1], []), (29, [6], [(sL 21), ((.ofNat 5), []), (sL 18), ((.ofNat 1), []), ((.ofNat 3), [])])]), 0, 0),
   ((22, [qtN 1 1 69, qtN 19 1 1, qtN 21 1 69], [((.negSucc 69), [(0, (.ofNat 1)), (1, (.ofNat 1))]), ((.negSucc 0), [(1, (.negSucc 0)), (21, (.ofNat 1))]), ((.ofNat 0), [(1, (.negSucc 0)), (21, (.ofNat 1))]), ((.negSucc 69), [(0, (.ofNat 1)), (1, (.ofNat 1)), (21, (.negSucc 0))]), ((.negSucc 68), [(0, (.ofNat 1)), (1, (.ofNat 1)), (21, (.negSucc 0))]), ((.ofNat 0), [(0, (.negSucc 0)), (1, (.negSucc 0)), (21, (.ofNat 1))])], [qvK (.ofNat 0)], zh143, [(2, [1], []), (1, [1], []), (29, [6], [(sL 21), ((.ofNat 5), []), (sL 18), (sL 19), ((.ofNat 3), [])])]), 0, 0)])
noncomputable def c166_51_e : List Ct := [c162_40, c162_41, c163_0, c167_77]
noncomputable def c166_51_pts : List PE := []
set_option maxRecDepth 100000 in
theorem c166_51_k : enCtF c166_51 c166_51_e (pkP (c166_51_pts ++ []) []) (none) ((hOr (hWpop 22 6) (hWz 42 6)), noM, 0, 4398050705408, 21) 3000 = true := by decide +kernel
set_option maxRecDepth 100000 in
theorem c166_51_v : ValidC PPk c166_51 := ct_ok fpk ⟨(hOr_ok (hWpop_ok 22 6) (hWz_ok 42 6)), noM_ok⟩ (d := 2) (ext := []) (pts := c166_51_pts) (env := c166_51_e) rfl (List.forall_mem_cons.mpr ⟨⟨c162_40_v, Nat.le_of_ble_eq_true rfl⟩, List.forall_mem_cons.mpr ⟨⟨c162_41_v, Nat.le_of_ble_eq_true rfl⟩, List.forall_mem_cons.mpr ⟨⟨c163_0_v, Nat.le_of_ble_eq_true rfl⟩, List.forall_mem_cons.mpr ⟨⟨c167_77_v, Nat.le_of_ble_eq_true rfl⟩, fun _ h => (by cases h)⟩⟩⟩⟩) ext_nil (fun q h => (by cases h)) (enF c166_51_k) (fun _ h => (by cases h))

noncomputable def c167_78 : Ct := (167, 1, (23, (zt65 []), [], [qvR 0, qvK (.ofNat 9)], zh144, [(2, [1], []), (1, [1], []), (29, [6], [(sL 1), ((.ofNat 5), []), (sL 20), (sL 21), (sL 22)])]),
  [((23, [], [], [], zh145, [(2, [1], []), (1, [1], []), (29, [6], [((.ofNat 1), [(1, (.ofNat 1))]), ((.ofNat 5), []), (sL 20), ((.ofNat 1), []), ((.ofNat 3), [])])]), 0, 0)])
noncomputable def c167_78_e : List Ct := []
noncomputable def c167_78_pts : List PE := []
set_option maxRecDepth 100000 in
theorem c167_78_k : enCtF c167_78 c167_78_e (pkP (c167_78_pts ++ []) []) (none) (noF, (mWst 9), 0, 512, 23) 3000 = true := by decide +kernel
set_option maxRecDepth 100000 in
theorem c167_78_v : ValidC PPk c167_78 := ct_ok fpk ⟨noF_ok, (mWst_ok 9)⟩ (d := 0) (ext := []) (pts := c167_78_pts) (env := c167_78_e) rfl (fun _ h => (by cases h)) ext_nil (fun q h => (by cases h)) (enF c167_78_k) (fun _ h => (by cases h))

noncomputable def c166_52 : Ct := (166, 3, (21, (zt58 []), [((.negSucc 68), [(0, (.ofNat 1)), (1, (.ofNat 1))])], [qvR 0, qvK (.ofNat 9)], zh141, [(2, [1], []), (1, [1], []), (29, [6], [(sL 1), ((.ofNat 5), []), (sL 18), (sL 19), (sL 20)])]),
  [((22, [qtN 1 1 69, qtN 19 0 0, qtN 21 2 70], [((.negSucc 69), [(0, (.ofNat 1)), (1, (.ofNat 1))]), ((.negSucc 0), [(0, (.negSucc 0)), (1, (.negSucc 0)), (21, (.ofNat 1))]), ((.negSucc 67), [(0, (.ofNat 1)), (1, (.ofNat 1)), (21, (.negSucc 0))]), ((.negSucc 68), [(0, (.ofNat 1)), (1, (.ofNat 1)), (21, (.negSucc 0))])], [qvK (.ofNat 1)], zh146, [(2, [1], []), (1, [1], []), (29, [6], [(sL 21), ((.ofNat 5), []), (sL 18), ((.ofNat 1), []), ((.ofNat 3), [])])]), 0, 0),
   ((22, [qtN 1 1 69, qtN 19 1 1, qtN 21 1 69], [((.negSucc 69), [(0, (.ofNat 1)), (1, (.ofNat 1))]), ((.negSucc 0), [(1, (.negSucc 0)), (21, (.ofNat 1))]), ((.ofNat 0), [(1, (.negSucc 0)), (21, (.ofNat 1))]), ((.negSucc 69), [(0, (.ofNat 1)), (1, (.ofNat 1)), (21, (.negSucc 0))]), ((.negSucc 68), [(0, (.ofNat 1)), (1, (.ofNat 1)), (21, (.negSucc 0))]), ((.ofNat 0), [(0, (.negSucc 0)), (1, (.negSucc 0)), (21, (.ofNat 1))])], [qvK (.ofNat 0)], zh143, [(2, [1], []), (1, [1], []), (29, [6], [(sL 21), ((.ofNat 5), []), (sL 18), (sL 19), ((.ofNat 3), [])])]), 0, 0)])
noncomputable def c166_52_e : List Ct := [c162_40, c162_41, c163_0, c167_78]
noncomputable def c166_52_pts : List PE := []
set_option maxRecDepth 100000 in
theorem c166_52_k : enCtF c166_52 c166_52_e (pkP (c166_52_pts ++ []) []) (none) ((hOr (hWpop 22 6) (hWz 42 6)), noM, 0, 4398050705408, 21) 3000 = true := by decide +kernel
set_option maxRecDepth 100000 in
theorem c166_52_v : ValidC PPk c166_52 := ct_ok fpk ⟨(hOr_ok (hWpop_ok 22 6) (hWz_ok 42 6)), noM_ok⟩ (d := 2) (ext := []) (pts := c166_52_pts) (env := c166_52_e) rfl (List.forall_mem_cons.mpr ⟨⟨c162_40_v, Nat.le_of_ble_eq_true rfl⟩, List.forall_mem_cons.mpr ⟨⟨c162_41_v, Nat.le_of_ble_eq_true rfl⟩, List.forall_mem_cons.mpr ⟨⟨c163_0_v, Nat.le_of_ble_eq_true rfl⟩, List.forall_mem_cons.mpr ⟨⟨c167_78_v, Nat.le_of_ble_eq_true rfl⟩, fun _ h => (by cases h)⟩⟩⟩⟩) ext_nil (fun q h => (by cases h)) (enF c166_52_k) (fun _ h => (by cases h))

noncomputable def c167_79 : Ct := (167, 1, (23, (zt66 []), [], [qvR 0, qvK (.ofNat 12)], zh144, [(2, [1], []), (1, [1], []), (29, [6], [(sL 1), ((.ofNat 5), []), (sL 20), (sL 21), (sL 22)])]),
  [((23, [], [], [], zh145, [(2, [1], []), (1, [1], []), (29, [6], [((.ofNat 1), [(1, (.ofNat 1))]), ((.ofNat 5), []), (sL 20), (sL 21), ((.ofNat 1), [])])]), 0, 0)])
noncomputable def c167_79_e : List Ct := []
noncomputable def c167_79_pts : List PE := []
set_option maxRecDepth 100000 in
theorem c167_79_k : enCtF c167_79 c167_79_e (pkP (c167_79_pts ++ []) []) (none) (noF, (mWst 9), 0, 512, 23) 3000 = true := by decide +kernel
set_option maxRecDepth 100000 in
theorem c167_79_v : ValidC PPk c167_79 := ct_ok fpk ⟨noF_ok, (mWst_ok 9)⟩ (d := 0) (ext := []) (pts := c167_79_pts) (env := c167_79_e) rfl (fun _ h => (by cases h)) ext_nil (fun q h => (by cases h)) (enF c167_79_k) (fun _ h => (by cases h))

noncomputable def c166_53 : Ct := (166, 3, (21, (zt58 []), [((.negSucc 68), [(0, (.ofNat 1)), (1, (.ofNat 1))])], [qvR 0, qvK (.ofNat 12)], zh141, [(2, [1], []), (1, [1], []), (29, [6], [(sL 1), ((.ofNat 5), []), (sL 18), (sL 19), (sL 20)])]),
  [((22, [qtN 1 1 69, qtN 21 2 70], [((.negSucc 69), [(0, (.ofNat 1)), (1, (.ofNat 1))]), ((.negSucc 1), [(1, (.negSucc 0)), (21, (.ofNat 1))]), ((.negSucc 0), [(1, (.negSucc 0)), (21, (.ofNat 1))]), ((.negSucc 68), [(0, (.ofNat 1)), (1, (.ofNat 1)), (21, (.negSucc 0))]), ((.negSucc 67), [(0, (.ofNat 1)), (1, (.ofNat 1)), (21, (.negSucc 0))]), ((.negSucc 0), [(0, (.negSucc 0)), (1, (.negSucc 0)), (21, (.ofNat 1))])], [qvK (.ofNat 1)], zh146, [(2, [1], []), (1, [1], []), (29, [6], [(sL 21), ((.ofNat 5), []), (sL 18), ((.ofNat 0), []), ((.ofNat 1), [])])]), 0, 0)])
noncomputable def c166_53_e : List Ct := [c162_10, c163_0, c167_79]
noncomputable def c166_53_pts : List PE := []
set_option maxRecDepth 100000 in
theorem c166_53_k : enCtF c166_53 c166_53_e (pkP (c166_53_pts ++ []) []) (none) ((hOr (hWpop 22 6) (hWz 42 6)), noM, 0, 4398050705408, 21) 3000 = true := by decide +kernel
set_option maxRecDepth 100000 in
theorem c166_53_v : ValidC PPk c166_53 := ct_ok fpk ⟨(hOr_ok (hWpop_ok 22 6) (hWz_ok 42 6)), noM_ok⟩ (d := 2) (ext := []) (pts := c166_53_pts) (env := c166_53_e) rfl (List.forall_mem_cons.mpr ⟨⟨c162_10_v, Nat.le_of_ble_eq_true rfl⟩, List.forall_mem_cons.mpr ⟨⟨c163_0_v, Nat.le_of_ble_eq_true rfl⟩, List.forall_mem_cons.mpr ⟨⟨c167_79_v, Nat.le_of_ble_eq_true rfl⟩, fun _ h => (by cases h)⟩⟩⟩) ext_nil (fun q h => (by cases h)) (enF c166_53_k) (fun _ h => (by cases h))

noncomputable def c162_42 : Ct := (162, 2, (21, (zt58 []), [((.negSucc 68), [(0, (.ofNat 1)), (1, (.ofNat 1))])], [qvR 0, qvK (.ofNat 2)], zh141, [(2, [1], []), (1, [1], []), (29, [6], [(sL 1), ((.ofNat 6), []), (sL 18), (sL 19), (sL 20)])]),
  [((23, [qtN 21 1 69, qtN 22 0 1], [((.ofNat 0), [(0, (.negSucc 0)), (1, (.negSucc 0)), (21, (.ofNat 1))]), ((.negSucc 68), [(0, (.ofNat 1)), (1, (.ofNat 1)), (21, (.negSucc 0))]), ((.negSucc 69), [(0, (.ofNat 1)), (1, (.ofNat 1)), (21, (.negSucc 0))]), ((.negSucc 69), [(0, (.ofNat 1)), (1, (.ofNat 1))]), ((.ofNat 0), [(1, (.negSucc 0)), (21, (.ofNat 1))]), ((.negSucc 0), [(1, (.negSucc 0)), (21, (.ofNat 1))])], [], zh143, [(2, [1], []), (1, [1], []), (29, [6], [(sL 21), ((.ofNat 6), []), (sL 18), ((.ofNat 0), []), (sL 22)])]), 0, 0)])
noncomputable def c162_42_e : List Ct := [c163_0, c164_0]
noncomputable def c162_42_p0 : PE := (0, [0, 1], (24, (zt59 []), [((.negSucc 68), [(0, (.ofNat 1)), (1, (.ofNat 1))]), ((.negSucc 69), [(0, (.ofNat 1)), (1, (.ofNat 1))]), ((.ofNat 0), [(0, (.negSucc 0)), (1, (.negSucc 0)), (21, (.ofNat 1))]), ((.negSucc 68), [(0, (.ofNat 1)), (1, (.ofNat 1)), (21, (.negSucc 0))]), ((.negSucc 69), [(0, (.ofNat 1)), (1, (.ofNat 1)), (21, (.negSucc 0))]), ((.ofNat 0), [(1, (.negSucc 0)), (21, (.ofNat 1))]), ((.negSucc 0), [(1, (.negSucc 0)), (21, (.ofNat 1))])], [qvR 0, qvK (.ofNat 2)], zh143, [(2, [1], []), (1, [1], []), (29, [6], [(sL 21), ((.ofNat 6), []), (sL 18), (sL 22), (sL 23)])]), symsL 21 0, some ((.ofNat 139), [(0, (.negSucc 0)), (1, (.negSucc 0)), (21, (.ofNat 1))]), 0, 0)
noncomputable def c162_42_pts : List PE := [c162_42_p0]
set_option maxRecDepth 100000 in
theorem c162_42_k : enCtF c162_42 c162_42_e (pkP (c162_42_pts ++ []) [0]) (none) ((hOr (hWpop 7 6) (hWz 52 6)), noM, 1, 4503599627370624, 21) 3000 = true := by decide +kernel
set_option maxRecDepth 100000 in
theorem c162_42_k0 : ptCtF c162_42 c162_42_e (pkP (c162_42_pts ++ []) [0]) ((hOr (hWpop 7 6) (hWz 52 6)), noM, 1, 4503599627370624, 21) 3000 c162_42_p0 = true := by decide +kernel
set_option maxRecDepth 100000 in
theorem c162_42_v : ValidC PPk c162_42 := ct_ok fpk ⟨(hOr_ok (hWpop_ok 7 6) (hWz_ok 52 6)), noM_ok⟩ (d := 1) (ext := []) (pts := c162_42_pts) (env := c162_42_e) rfl (List.forall_mem_cons.mpr ⟨⟨c163_0_v, Nat.le_of_ble_eq_true rfl⟩, List.forall_mem_cons.mpr ⟨⟨c164_0_v, Nat.le_of_ble_eq_true rfl⟩, fun _ h => (by cases h)⟩⟩) ext_nil (fun q h => (by cases h)) (enF c162_42_k) (List.forall_mem_cons.mpr ⟨⟨_, ptF c162_42_k0⟩, fun _ h => (by cases h)⟩)

noncomputable def c167_80 : Ct := (167, 1, (23, (zt62 []), [], [qvR 0, qvK (.ofNat 11)], zh144, [(2, [1], []), (1, [1], []), (29, [6], [(sL 1), ((.ofNat 6), []), (sL 20), (sL 21), (sL 22)])]),
  [((23, [], [], [], zh145, [(2, [1], []), (1, [1], []), (29, [6], [((.ofNat 1), [(1, (.ofNat 1))]), ((.ofNat 6), []), (sL 20), (sL 21), ((.ofNat 2), [])])]), 0, 0)])
noncomputable def c167_80_e : List Ct := []
noncomputable def c167_80_pts : List PE := []
set_option maxRecDepth 100000 in
theorem c167_80_k : enCtF c167_80 c167_80_e (pkP (c167_80_pts ++ []) []) (none) (noF, (mWst 9), 0, 512, 23) 3000 = true := by decide +kernel
set_option maxRecDepth 100000 in
theorem c167_80_v : ValidC PPk c167_80 := ct_ok fpk ⟨noF_ok, (mWst_ok 9)⟩ (d := 0) (ext := []) (pts := c167_80_pts) (env := c167_80_e) rfl (fun _ h => (by cases h)) ext_nil (fun q h => (by cases h)) (enF c167_80_k) (fun _ h => (by cases h))

noncomputable def c166_54 : Ct := (166, 3, (21, (zt58 []), [((.negSucc 68), [(0, (.ofNat 1)), (1, (.ofNat 1))])], [qvR 0, qvK (.ofNat 11)], zh141, [(2, [1], []), (1, [1], []), (29, [6], [(sL 1), ((.ofNat 6), []), (sL 18), (sL 19), (sL 20)])]),
  [((22, [qtN 1 1 69, qtN 21 2 70], [((.negSucc 69), [(0, (.ofNat 1)), (1, (.ofNat 1))]), ((.negSucc 1), [(1, (.negSucc 0)), (21, (.ofNat 1))]), ((.negSucc 0), [(1, (.negSucc 0)), (21, (.ofNat 1))]), ((.negSucc 68), [(0, (.ofNat 1)), (1, (.ofNat 1)), (21, (.negSucc 0))]), ((.negSucc 67), [(0, (.ofNat 1)), (1, (.ofNat 1)), (21, (.negSucc 0))]), ((.negSucc 0), [(0, (.negSucc 0)), (1, (.negSucc 0)), (21, (.ofNat 1))])], [qvK (.ofNat 1)], zh146, [(2, [1], []), (1, [1], []), (29, [6], [(sL 21), ((.ofNat 6), []), (sL 18), ((.ofNat 0), []), ((.ofNat 2), [])])]), 0, 0)])
noncomputable def c166_54_e : List Ct := [c162_42, c163_0, c167_80]
noncomputable def c166_54_pts : List PE := []
set_option maxRecDepth 100000 in
theorem c166_54_k : enCtF c166_54 c166_54_e (pkP (c166_54_pts ++ []) []) (none) ((hOr (hWpop 22 6) (hWz 42 6)), noM, 0, 4398050705408, 21) 3000 = true := by decide +kernel
set_option maxRecDepth 100000 in
theorem c166_54_v : ValidC PPk c166_54 := ct_ok fpk ⟨(hOr_ok (hWpop_ok 22 6) (hWz_ok 42 6)), noM_ok⟩ (d := 2) (ext := []) (pts := c166_54_pts) (env := c166_54_e) rfl (List.forall_mem_cons.mpr ⟨⟨c162_42_v, Nat.le_of_ble_eq_true rfl⟩, List.forall_mem_cons.mpr ⟨⟨c163_0_v, Nat.le_of_ble_eq_true rfl⟩, List.forall_mem_cons.mpr ⟨⟨c167_80_v, Nat.le_of_ble_eq_true rfl⟩, fun _ h => (by cases h)⟩⟩⟩) ext_nil (fun q h => (by cases h)) (enF c166_54_k) (fun _ h => (by cases h))

noncomputable def c162_43 : Ct := (162, 2, (21, (zt58 []), [((.negSucc 68), [(0, (.ofNat 1)), (1, (.ofNat 1))])], [qvR 0, qvK (.ofNat 5)], zh141, [(2, [1], []), (1, [1], []), (29, [6], [(sL 1), ((.ofNat 6), []), (sL 18), (sL 19), (sL 20)])]),
  [((23, [qtN 21 1 69, qtN 22 0 4], [((.ofNat 0), [(0, (.negSucc 0)), (1, (.negSucc 0)), (21, (.ofNat 1))]), ((.negSucc 68), [(0, (.ofNat 1)), (1, (.ofNat 1)), (21, (.negSucc 0))]), ((.negSucc 69), [(0, (.ofNat 1)), (1, (.ofNat 1)), (21, (.negSucc 0))]), ((.negSucc 69), [(0, (.ofNat 1)), (1, (.ofNat 1))]), ((.ofNat 0), [(1, (.negSucc 0)), (21, (.ofNat 1))]), ((.negSucc 0), [(1, (.negSucc 0)), (21, (.ofNat 1))])], [], zh143, [(2, [1], []), (1, [1], []), (29, [6], [(sL 21), ((.ofNat 6), []), (sL 18), (sL 19), (sL 22)])]), 0, 0)])
noncomputable def c162_43_e : List Ct := [c163_0, c164_0]
noncomputable def c162_43_p0 : PE := (0, [0, 1], (23, (zt61 []), [((.negSucc 68), [(0, (.ofNat 1)), (1, (.ofNat 1))]), ((.negSucc 69), [(0, (.ofNat 1)), (1, (.ofNat 1))]), ((.ofNat 0), [(0, (.negSucc 0)), (1, (.negSucc 0)), (21, (.ofNat 1))]), ((.negSucc 68), [(0, (.ofNat 1)), (1, (.ofNat 1)), (21, (.negSucc 0))]), ((.negSucc 69), [(0, (.ofNat 1)), (1, (.ofNat 1)), (21, (.negSucc 0))]), ((.ofNat 0), [(1, (.negSucc 0)), (21, (.ofNat 1))]), ((.negSucc 0), [(1, (.negSucc 0)), (21, (.ofNat 1))])], [qvR 0, qvK (.ofNat 5)], zh143, [(2, [1], []), (1, [1], []), (29, [6], [(sL 21), ((.ofNat 6), []), (sL 18), (sL 19), (sL 22)])]), symsL 21 0, some ((.ofNat 139), [(0, (.negSucc 0)), (1, (.negSucc 0)), (21, (.ofNat 1))]), 0, 0)
noncomputable def c162_43_pts : List PE := [c162_43_p0]
set_option maxRecDepth 100000 in
theorem c162_43_k : enCtF c162_43 c162_43_e (pkP (c162_43_pts ++ []) [0]) (none) ((hOr (hWpop 7 6) (hWz 52 6)), noM, 1, 4503599627370624, 21) 3000 = true := by decide +kernel
set_option maxRecDepth 100000 in
theorem c162_43_k0 : ptCtF c162_43 c162_43_e (pkP (c162_43_pts ++ []) [0]) ((hOr (hWpop 7 6) (hWz 52 6)), noM, 1, 4503599627370624, 21) 3000 c162_43_p0 = true := by decide +kernel
set_option maxRecDepth 100000 in
theorem c162_43_v : ValidC PPk c162_43 := ct_ok fpk ⟨(hOr_ok (hWpop_ok 7 6) (hWz_ok 52 6)), noM_ok⟩ (d := 1) (ext := []) (pts := c162_43_pts) (env := c162_43_e) rfl (List.forall_mem_cons.mpr ⟨⟨c163_0_v, Nat.le_of_ble_eq_true rfl⟩, List.forall_mem_cons.mpr ⟨⟨c164_0_v, Nat.le_of_ble_eq_true rfl⟩, fun _ h => (by cases h)⟩⟩) ext_nil (fun q h => (by cases h)) (enF c162_43_k) (List.forall_mem_cons.mpr ⟨⟨_, ptF c162_43_k0⟩, fun _ h => (by cases h)⟩)

noncomputable def c167_81 : Ct := (167, 1, (23, (zt63 []), [], [qvR 0, qvK (.ofNat 4)], zh144, [(2, [1], []), (1, [1], []), (29, [6], [(sL 1), ((.ofNat 6), []), (sL 20), (sL 21), (sL 22)])]),
  [((23, [], [], [], zh145, [(2, [1], []), (1, [1], []), (29, [6], [((.ofNat 1), [(1, (.ofNat 1))]), ((.ofNat 6), []), (sL 20), (sL 21), ((.ofNat 5), [])])]), 0, 0)])
noncomputable def c167_81_e : List Ct := []
noncomputable def c167_81_pts : List PE := []
set_option maxRecDepth 100000 in
theorem c167_81_k : enCtF c167_81 c167_81_e (pkP (c167_81_pts ++ []) []) (none) (noF, (mWst 9), 0, 512, 23) 3000 = true := by decide +kernel
set_option maxRecDepth 100000 in
theorem c167_81_v : ValidC PPk c167_81 := ct_ok fpk ⟨noF_ok, (mWst_ok 9)⟩ (d := 0) (ext := []) (pts := c167_81_pts) (env := c167_81_e) rfl (fun _ h => (by cases h)) ext_nil (fun q h => (by cases h)) (enF c167_81_k) (fun _ h => (by cases h))

noncomputable def c166_55 : Ct := (166, 3, (21, (zt58 []), [((.negSucc 68), [(0, (.ofNat 1)), (1, (.ofNat 1))])], [qvR 0, qvK (.ofNat 4)], zh141, [(2, [1], []), (1, [1], []), (29, [6], [(sL 1), ((.ofNat 6), []), (sL 18), (sL 19), (sL 20)])]),
  [((22, [qtN 1 1 69, qtN 21 2 70], [((.negSucc 69), [(0, (.ofNat 1)), (1, (.ofNat 1))]), ((.negSucc 1), [(1, (.negSucc 0)), (21, (.ofNat 1))]), ((.negSucc 0), [(1, (.negSucc 0)), (21, (.ofNat 1))]), ((.negSucc 68), [(0, (.ofNat 1)), (1, (.ofNat 1)), (21, (.negSucc 0))]), ((.negSucc 67), [(0, (.ofNat 1)), (1, (.ofNat 1)), (21, (.negSucc 0))]), ((.negSucc 0), [(0, (.negSucc 0)), (1, (.negSucc 0)), (21, (.ofNat 1))])], [qvK (.ofNat 1)], zh146, [(2, [1], []), (1, [1], []), (29, [6], [(sL 21), ((.ofNat 6), []), (sL 18), (sL 19), ((.ofNat 5), [])])]), 0, 0)])
noncomputable def c166_55_e : List Ct := [c162_43, c163_0, c167_81]
noncomputable def c166_55_pts : List PE := []
set_option maxRecDepth 100000 in
theorem c166_55_k : enCtF c166_55 c166_55_e (pkP (c166_55_pts ++ []) []) (none) ((hOr (hWpop 22 6) (hWz 42 6)), noM, 0, 4398050705408, 21) 3000 = true := by decide +kernel
set_option maxRecDepth 100000 in
theorem c166_55_v : ValidC PPk c166_55 := ct_ok fpk ⟨(hOr_ok (hWpop_ok 22 6) (hWz_ok 42 6)), noM_ok⟩ (d := 2) (ext := []) (pts := c166_55_pts) (env := c166_55_e) rfl (List.forall_mem_cons.mpr ⟨⟨c162_43_v, Nat.le_of_ble_eq_true rfl⟩, List.forall_mem_cons.mpr ⟨⟨c163_0_v, Nat.le_of_ble_eq_true rfl⟩, List.forall_mem_cons.mpr ⟨⟨c167_81_v, Nat.le_of_ble_eq_true rfl⟩, fun _ h => (by cases h)⟩⟩⟩) ext_nil (fun q h => (by cases h)) (enF c166_55_k) (fun _ h => (by cases h))

noncomputable def c162_44 : Ct := (162, 2, (21, (zt58 []), [((.negSucc 68), [(0, (.ofNat 1)), (1, (.ofNat 1))])], [qvR 0, qvK (.ofNat 4)], zh141, [(2, [1], []), (1, [1], []), (29, [6], [(sL 1), ((.ofNat 6), []), (sL 18), (sL 19), (sL 20)])]),
  [((23, [qtN 21 1 69, qtN 22 0 3], [((.ofNat 0), [(0, (.negSucc 0)), (1, (.negSucc 0)), (21, (.ofNat 1))]), ((.negSucc 68), [(0, (.ofNat 1)), (1, (.ofNat 1)), (21, (.negSucc 0))]), ((.negSucc 69), [(0, (.ofNat 1)), (1, (.ofNat 1)), (21, (.negSucc 0))]), ((.negSucc 69), [(0, (.ofNat 1)), (1, (.ofNat 1))]), ((.ofNat 0), [(1, (.negSucc 0)), (21, (.ofNat 1))]), ((.negSucc 0), [(1, (.negSucc 0)), (21, (.ofNat 1))])], [], zh143, [(2, [1], []), (1, [1], []), (29, [6], [(sL 21), ((.ofNat 6), []), (sL 18), (sL 19), (sL 22)])]), 0, 0)])
noncomputable def c162_44_e : List Ct := [c163_0, c164_0]
noncomputable def c162_44_p0 : PE := (0, [0, 1], (23, (zt61 []), [((.negSucc 68), [(0, (.ofNat 1)), (1, (.ofNat 1))]), ((.negSucc 69), [(0, (.ofNat 1)), (1, (.ofNat 1))]), ((.ofNat 0), [(0, (.negSucc 0)), (1, (.negSucc 0)), (21, (.ofNat 1))]), ((.negSucc 68), [(0, (.ofNat 1)), (1, (.ofNat 1)), (21, (.negSucc 0))]), ((.negSucc 69), [(0, (.ofNat 1)), (1, (.ofNat 1)), (21, (.negSucc 0))]), ((.ofNat 0), [(1, (.negSucc 0)), (21, (.ofNat 1))]), ((.negSucc 0), [(1, (.negSucc 0)), (21, (.ofNat 1))])], [qvR 0, qvK (.ofNat 4)], zh143, [(2, [1], []), (1, [1], []), (29, [6], [(sL 21), ((.ofNat 6), []), (sL 18), (sL 19), (sL 22)])]), symsL 21 0, some ((.ofNat 139), [(0, (.negSucc 0)), (1, (.negSucc 0)), (21, (.ofNat 1))]), 0, 0)
noncomputable def c162_44_pts : List PE := [c162_44_p0]
set_option maxRecDepth 100000 in
theorem c162_44_k : enCtF c162_44 c162_44_e (pkP (c162_44_pts ++ []) [0]) (none) ((hOr (hWpop 7 6) (hWz 52 6)), noM, 1, 4503599627370624, 21) 3000 = true := by decide +kernel
set_option maxRecDepth 100000 in
theorem c162_44_k0 : ptCtF c162_44 c162_44_e (pkP (c162_44_pts ++ []) [0]) ((hOr (hWpop 7 6) (hWz 52 6)), noM, 1, 4503599627370624, 21) 3000 c162_44_p0 = true := by decide +kernel
set_option maxRecDepth 100000 in
theorem c162_44_v : ValidC PPk c162_44 := ct_ok fpk ⟨(hOr_ok (hWpop_ok 7 6) (hWz_ok 52 6)), noM_ok⟩ (d := 1) (ext := []) (pts := c162_44_pts) (env := c162_44_e) rfl (List.forall_mem_cons.mpr ⟨⟨c163_0_v, Nat.le_of_ble_eq_true rfl⟩, List.forall_mem_cons.mpr ⟨⟨c164_0_v, Nat.le_of_ble_eq_true rfl⟩, fun _ h => (by cases h)⟩⟩) ext_nil (fun q h => (by cases h)) (enF c162_44_k) (List.forall_mem_cons.mpr ⟨⟨_, ptF c162_44_k0⟩, fun _ h => (by cases h)⟩)

noncomputable def c167_82 : Ct := (167, 1, (23, (zt64 []), [], [qvR 0, qvK (.ofNat 6)], zh144, [(2, [1], []), (1, [1], []), (29, [6], [(sL 1), ((.ofNat 6), []), (sL 20), (sL 21), (sL 22)])]),
  [((23, [], [], [], zh145, [(2, [1], []), (1, [1], []), (29, [6], [((.ofNat 1), [(1, (.ofNat 1))]), ((.ofNat 6), []), (sL 20), (sL 21), ((.ofNat 4), [])])]), 0, 0)])
noncomputable def c167_82_e : List Ct := []
noncomputable def c167_82_pts : List PE := []
set_option maxRecDepth 100000 in
theorem c167_82_k : enCtF c167_82 c167_82_e (pkP (c167_82_pts ++ []) []) (none) (noF, (mWst 9), 0, 512, 23) 3000 = true := by decide +kernel
set_option maxRecDepth 100000 in
theorem c167_82_v : ValidC PPk c167_82 := ct_ok fpk ⟨noF_ok, (mWst_ok 9)⟩ (d := 0) (ext := []) (pts := c167_82_pts) (env := c167_82_e) rfl (fun _ h => (by cases h)) ext_nil (fun q h => (by cases h)) (enF c167_82_k) (fun _ h => (by cases h))

noncomputable def c166_56 : Ct := (166, 3, (21, (zt58 []), [((.negSucc 68), [(0, (.ofNat 1)), (1, (.ofNat 1))])], [qvR 0, qvK (.ofNat 6)], zh141, [(2, [1], []), (1, [1], []), (29, [6], [(sL 1), ((.ofNat 6), []), (sL 18), (sL 19), (sL 20)])]),
  [((22, [qtN 1 1 69, qtN 21 2 70], [((.negSucc 69), [(0, (.ofNat 1)), (1, (.ofNat 1))]), ((.negSucc 1), [(1, (.negSucc 0)), (21, (.ofNat 1))]), ((.negSucc 0), [(1, (.negSucc 0)), (21, (.ofNat 1))]), ((.negSucc 68), [(0, (.ofNat 1)), (1, (.ofNat 1)), (21, (.negSucc 0))]), ((.negSucc 67), [(0, (.ofNat 1)), (1, (.ofNat 1)), (21, (.negSucc 0))]), ((.negSucc 0), [(0, (.negSucc 0)), (1, (.negSucc 0)), (21, (.ofNat 1))])], [qvK (.ofNat 1)], zh146, [(2, [1], []), (1, [1], []), (29, [6], [(sL 21), ((.ofNat 6), []), (sL 18), (sL 19), ((.ofNat 4), [])])]), 0, 0)])
noncomputable def c166_56_e : List Ct := [c162_44, c163_0, c167_82]
noncomputable def c166_56_pts : List PE := []
set_option maxRecDepth 100000 in
theorem c166_56_k : enCtF c166_56 c166_56_e (pkP (c166_56_pts ++ []) []) (none) ((hOr (hWpop 22 6) (hWz 42 6)), noM, 0, 4398050705408, 21) 3000 = true := by decide +kernel
set_option maxRecDepth 100000 in
theorem c166_56_v : ValidC PPk c166_56 := ct_ok fpk ⟨(hOr_ok (hWpop_ok 22 6) (hWz_ok 42 6)), noM_ok⟩ (d := 2) (ext := []) (pts := c166_56_pts) (env := c166_56_e) rfl (List.forall_mem_cons.mpr ⟨⟨c162_44_v, Nat.le_of_ble_eq_true rfl⟩, List.forall_mem_cons.mpr ⟨⟨c163_0_v, Nat.le_of_ble_eq_true rfl⟩, List.forall_mem_cons.mpr ⟨⟨c167_82_v, Nat.le_of_ble_eq_true rfl⟩, fun _ h => (by cases h)⟩⟩⟩) ext_nil (fun q h => (by cases h)) (enF c166_56_k) (fun _ h => (by cases h))

noncomputable def c167_83 : Ct := (167, 1, (23, (zt64 []), [], [qvR 0, qvK (.ofNat 7)], zh144, [(2, [1], []), (1, [1], []), (29, [6], [(sL 1), ((.ofNat 6), []), (sL 20), (sL 21), (sL 22)])]),
  [((23, [], [], [], zh145, [(2, [1], []), (1, [1], []), (29, [6], [((.ofNat 1), [(1, (.ofNat 1))]), ((.ofNat 6), []), (sL 20), (sL 21), ((.ofNat 4), [])])]), 0, 0)])
noncomputable def c167_83_e : List Ct := []
noncomputable def c167_83_pts : List PE := []
set_option maxRecDepth 100000 in
theorem c167_83_k : enCtF c167_83 c167_83_e (pkP (c167_83_pts ++ []) []) (none) (noF, (mWst 9), 0, 512, 23) 3000 = true := by decide +kernel
set_option maxRecDepth 100000 in
theorem c167_83_v : ValidC PPk c167_83 := ct_ok fpk ⟨noF_ok, (mWst_ok 9)⟩ (d := 0) (ext := []) (pts := c167_83_pts) (env := c167_83_e) rfl (fun _ h => (by cases h)) ext_nil (fun q h => (by cases h)) (enF c167_83_k) (fun _ h => (by cases h))

noncomputable def c166_57 : Ct := (166, 3, (21, (zt58 []), [((.negSucc 68), [(0, (.ofNat 1)), (1, (.ofNat 1))])], [qvR 0, qvK (.ofNat 7)], zh141, [(2, [1], []), (1, [1], []), (29, [6], [(sL 1), ((.ofNat 6), []), (sL 18), (sL 19), (sL 20)])]),
  [((22, [qtN 1 1 69, qtN 21 2 70], [((.negSucc 69), [(0, (.ofNat 1)), (1, (.ofNat 1))]), ((.negSucc 1), [(1, (.negSucc 0)), (21, (.ofNat 1))]), ((.negSucc 0), [(1, (.negSucc 0)), (21, (.ofNat 1))]), ((.negSucc 68), [(0, (.ofNat 1)), (1, (.ofNat 1)), (21, (.negSucc 0))]), ((.negSucc 67), [(0, (.ofNat 1)), (1, (.ofNat 1)), (21, (.negSucc 0))]), ((.negSucc 0), [(0, (.negSucc 0)), (1, (.negSucc 0)), (21, (.ofNat 1))])], [qvK (.ofNat 1)], zh146, [(2, [1], []), (1, [1], []), (29, [6], [(sL 21), ((.ofNat 6), []), (sL 18), (sL 19), ((.ofNat 4), [])])]), 0, 0)])
noncomputable def c166_57_e : List Ct := [c162_44, c163_0, c167_83]
noncomputable def c166_57_pts : List PE := []
set_option maxRecDepth 100000 in
theorem c166_57_k : enCtF c166_57 c166_57_e (pkP (c166_57_pts ++ []) []) (none) ((hOr (hWpop 22 6) (hWz 42 6)), noM, 0, 4398050705408, 21) 3000 = true := by decide +kernel
set_option maxRecDepth 100000 in
theorem c166_57_v : ValidC PPk c166_57 := ct_ok fpk ⟨(hOr_ok (hWpop_ok 22 6) (hWz_ok 42 6)), noM_ok⟩ (d := 2) (ext := []) (pts := c166_57_pts) (env := c166_57_e) rfl (List.forall_mem_cons.mpr ⟨⟨c162_44_v, Nat.le_of_ble_eq_true rfl⟩, List.forall_mem_cons.mpr ⟨⟨c163_0_v, Nat.le_of_ble_eq_true rfl⟩, List.forall_mem_cons.mpr ⟨⟨c167_83_v, Nat.le_of_ble_eq_true rfl⟩, fun _ h => (by cases h)⟩⟩⟩) ext_nil (fun q h => (by cases h)) (enF c166_57_k) (fun _ h => (by cases h))

noncomputable def c167_84 : Ct := (167, 1, (23, (zt63 []), [], [qvR 0, qvK (.ofNat 5)], zh144, [(2, [1], []), (1, [1], []), (29, [6], [(sL 1), ((.ofNat 6), []), (sL 20), (sL 21), (sL 22)])]),
  [((23, [], [], [], zh145, [(2, [1], []), (1, [1], []), (29, [6], [((.ofNat 1), [(1, (.ofNat 1))]), ((.ofNat 6), []), (sL 20), (sL 21), ((.ofNat 5), [])])]), 0, 0)])
noncomputable def c167_84_e : List Ct := []
noncomputable def c167_84_pts : List PE := []
set_option maxRecDepth 100000 in
theorem c167_84_k : enCtF c167_84 c167_84_e (pkP (c167_84_pts ++ []) []) (none) (noF, (mWst 9), 0, 512, 23) 3000 = true := by decide +kernel
set_option maxRecDepth 100000 in
theorem c167_84_v : ValidC PPk c167_84 := ct_ok fpk ⟨noF_ok, (mWst_ok 9)⟩ (d := 0) (ext := []) (pts := c167_84_pts) (env := c167_84_e) rfl (fun _ h => (by cases h)) ext_nil (fun q h => (by cases h)) (enF c167_84_k) (fun _ h => (by cases h))

noncomputable def c166_58 : Ct := (166, 3, (21, (zt58 []), [((.negSucc 68), [(0, (.ofNat 1)), (1, (.ofNat 1))])], [qvR 0, qvK (.ofNat 5)], zh141, [(2, [1], []), (1, [1], []), (29, [6], [(sL 1), ((.ofNat 6), []), (sL 18), (sL 19), (sL 20)])]),
  [((22, [qtN 1 1 69, qtN 21 2 70], [((.negSucc 69), [(0, (.ofNat 1)), (1, (.ofNat 1))]), ((.negSucc 1), [(1, (.negSucc 0)), (21, (.ofNat 1))]), ((.negSucc 0), [(1, (.negSucc 0)), (21, (.ofNat 1))]), ((.negSucc 68), [(0, (.ofNat 1)), (1, (.ofNat 1)), (21, (.negSucc 0))]), ((.negSucc 67), [(0, (.ofNat 1)), (1, (.ofNat 1)), (21, (.negSucc 0))]), ((.negSucc 0), [(0, (.negSucc 0)), (1, (.negSucc 0)), (21, (.ofNat 1))])], [qvK (.ofNat 1)], zh146, [(2, [1], []), (1, [1], []), (29, [6], [(sL 21), ((.ofNat 6), []), (sL 18), (sL 19), ((.ofNat 5), [])])]), 0, 0)])
noncomputable def c166_58_e : List Ct := [c162_43, c163_0, c167_84]
noncomputable def c166_58_pts : List PE := []
set_option maxRecDepth 100000 in
theorem c166_58_k : enCtF c166_58 c166_58_e (pkP (c166_58_pts ++ []) []) (none) ((hOr (hWpop 22 6) (hWz 42 6)), noM, 0, 4398050705408, 21) 3000 = true := by decide +kernel
set_option maxRecDepth 100000 in
theorem c166_58_v : ValidC PPk c166_58 := ct_ok fpk ⟨(hOr_ok (hWpop_ok 22 6) (hWz_ok 42 6)), noM_ok⟩ (d := 2) (ext := []) (pts := c166_58_pts) (env := c166_58_e) rfl (List.forall_mem_cons.mpr ⟨⟨c162_43_v, Nat.le_of_ble_eq_true rfl⟩, List.forall_mem_cons.mpr ⟨⟨c163_0_v, Nat.le_of_ble_eq_true rfl⟩, List.forall_mem_cons.mpr ⟨⟨c167_84_v, Nat.le_of_ble_eq_true rfl⟩, fun _ h => (by cases h)⟩⟩⟩) ext_nil (fun q h => (by cases h)) (enF c166_58_k) (fun _ h => (by cases h))

noncomputable def c162_45 : Ct := (162, 2, (21, (zt58 []), [((.negSucc 68), [(0, (.ofNat 1)), (1, (.ofNat 1))])], [qvR 0, qvK (.ofNat 3)], zh141, [(2, [1], []), (1, [1], []), (29, [6], [(sL 1), ((.ofNat 6), []), (sL 18), (sL 19), (sL 20)])]),
  [((23, [qtN 21 1 69, qtN 22 0 2], [((.ofNat 0), [(0, (.negSucc 0)), (1, (.negSucc 0)), (21, (.ofNat 1))]), ((.negSucc 68), [(0, (.ofNat 1)), (1, (.ofNat 1)), (21, (.negSucc 0))]), ((.negSucc 69), [(0, (.ofNat 1)), (1, (.ofNat 1)), (21, (.negSucc 0))]), ((.negSucc 69), [(0, (.ofNat 1)), (1, (.ofNat 1))]), ((.ofNat 0), [(1, (.negSucc 0)), (21, (.ofNat 1))]), ((.negSucc 0), [(1, (.negSucc 0)), (21, (.ofNat 1))])], [], zh143, [(2, [1], []), (1, [1], []), (29, [6], [(sL 21), ((.ofNat 6), []), (sL 18), ((.ofNat 0), []), (sL 22)])]), 0, 0)])
noncomputable def c162_45_e : List Ct := [c163_0, c164_0]
noncomputable def c162_45_p0 : PE := (0, [0, 1], (24, (zt59 []), [((.negSucc 68), [(0, (.ofNat 1)), (1, (.ofNat 1))]), ((.negSucc 69), [(0, (.ofNat 1)), (1, (.ofNat 1))]), ((.ofNat 0), [(0, (.negSucc 0)), (1, (.negSucc 0)), (21, (.ofNat 1))]), ((.negSucc 68), [(0, (.ofNat 1)), (1, (.ofNat 1)), (21, (.negSucc 0))]), ((.negSucc 69), [(0, (.ofNat 1)), (1, (.ofNat 1)), (21, (.negSucc 0))]), ((.ofNat 0), [(1, (.negSucc 0)), (21, (.ofNat 1))]), ((.negSucc 0), [(1, (.negSucc 0)), (21, (.ofNat 1))])], [qvR 0, qvK (.ofNat 3)], zh143, [(2, [1], []), (1, [1], []), (29, [6], [(sL 21), ((.ofNat 6), []), (sL 18), (sL 22), (sL 23)])]), symsL 21 0, some ((.ofNat 139), [(0, (.negSucc 0)), (1, (.negSucc 0)), (21, (.ofNat 1))]), 0, 0)
noncomputable def c162_45_pts : List PE := [c162_45_p0]
set_option maxRecDepth 100000 in
theorem c162_45_k : enCtF c162_45 c162_45_e (pkP (c162_45_pts ++ []) [0]) (none) ((hOr (hWpop 7 6) (hWz 52 6)), noM, 1, 4503599627370624, 21) 3000 = true := by decide +kernel
set_option maxRecDepth 100000 in
theorem c162_45_k0 : ptCtF c162_45 c162_45_e (pkP (c162_45_pts ++ []) [0]) ((hOr (hWpop 7 6) (hWz 52 6)), noM, 1, 4503599627370624, 21) 3000 c162_45_p0 = true := by decide +kernel
set_option maxRecDepth 100000 in
theorem c162_45_v : ValidC PPk c162_45 := ct_ok fpk ⟨(hOr_ok (hWpop_ok 7 6) (hWz_ok 52 6)), noM_ok⟩ (d := 1) (ext := []) (pts := c162_45_pts) (env := c162_45_e) rfl (List.forall_mem_cons.mpr ⟨⟨c163_0_v, Nat.le_of_ble_eq_true rfl⟩, List.forall_mem_cons.mpr ⟨⟨c164_0_v, Nat.le_of_ble_eq_true rfl⟩, fun _ h => (by cases h)⟩⟩) ext_nil (fun q h => (by cases h)) (enF c162_45_k) (List.forall_mem_cons.mpr ⟨⟨_, ptF c162_45_k0⟩, fun _ h => (by cases h)⟩)

noncomputable def c167_85 : Ct := (167, 1, (23, (zt65 []), [], [qvR 0, qvK (.ofNat 8)], zh144, [(2, [1], []), (1, [1], []), (29, [6], [(sL 1), ((.ofNat 6), []), (sL 20), (sL 21), (sL 22)])]),
  [((23, [], [], [], zh145, [(2, [1], []), (1, [1], []), (29, [6], [((.ofNat 1), [(1, (.ofNat 1))]), ((.ofNat 6), []), (sL 20), ((.ofNat 1), []), ((.ofNat 3), [])])]), 0, 0)])
noncomputable def c167_85_e : List Ct := []
noncomputable def c167_85_pts : List PE := []
set_option maxRecDepth 100000 in
theorem c167_85_k : enCtF c167_85 c167_85_e (pkP (c167_85_pts ++ []) []) (none) (noF, (mWst 9), 0, 512, 23) 3000 = true := by decide +kernel
set_option maxRecDepth 100000 in
theorem c167_85_v : ValidC PPk c167_85 := ct_ok fpk ⟨noF_ok, (mWst_ok 9)⟩ (d := 0) (ext := []) (pts := c167_85_pts) (env := c167_85_e) rfl (fun _ h => (by cases h)) ext_nil (fun q h => (by cases h)) (enF c167_85_k) (fun _ h => (by cases h))

noncomputable def c166_59 : Ct := (166, 3, (21, (zt58 []), [((.negSucc 68), [(0, (.ofNat 1)), (1, (.ofNat 1))])], [qvR 0, qvK (.ofNat 8)], zh141, [(2, [1], []), (1, [1], []), (29, [6], [(sL 1), ((.ofNat 6), []), (sL 18), (sL 19), (sL 20)])]),
  [((22, [qtN 1 1 69, qtN 19 0 0, qtN 21 2 70], [((.negSucc 69), [(0, (.ofNat 1)), (1, (.ofNat 1))]), ((.negSucc 0), [(0, (.negSucc 0)), (1, (.negSucc 0)), (21, (.ofNat 1))]), ((.negSucc 67), [(0, (.ofNat 1)), (1, (.ofNat 1)), (21, (.negSucc 0))]), ((.negSucc 68), [(0, (.ofNat 1)), (1, (.ofNat 1)), (21, (.negSucc 0))])], [qvK (.ofNat 1)], zh146, [(2, [1], []), (1, [1], []), (29, [6], [(sL 21), ((.ofNat 6), []), (sL 18), ((.ofNat 1), []), ((.ofNat 3), [])])]), 0, 0),
   ((22, [qtN 1 1 69, qtN 19 1 1, qtN 21 1 69], [((.negSucc 69), [(0, (.ofNat 1)), (1, (.ofNat 1))]), ((.negSucc 0), [(1, (.negSucc 0)), (21, (.ofNat 1))]), ((.ofNat 0), [(1, (.negSucc 0)), (21, (.ofNat 1))]), ((.negSucc 69), [(0, (.ofNat 1)), (1, (.ofNat 1)), (21, (.negSucc 0))]), ((.negSucc 68), [(0, (.ofNat 1)), (1, (.ofNat 1)), (21, (.negSucc 0))]), ((.ofNat 0), [(0, (.negSucc 0)), (1, (.negSucc 0)), (21, (.ofNat 1))])], [qvK (.ofNat 0)], zh143, [(2, [1], []), (1, [1], []), (29, [6], [(sL 21), ((.ofNat 6), []), (sL 18), (sL 19), ((.ofNat 3), [])])]), 0, 0)])
noncomputable def c166_59_e : List Ct := [c162_44, c162_45, c163_0, c167_85]
noncomputable def c166_59_pts : List PE := []
set_option maxRecDepth 100000 in
theorem c166_59_k : enCtF c166_59 c166_59_e (pkP (c166_59_pts ++ []) []) (none) ((hOr (hWpop 22 6) (hWz 42 6)), noM, 0, 4398050705408, 21) 3000 = true := by decide +kernel
set_option maxRecDepth 100000 in
theorem c166_59_v : ValidC PPk c166_59 := ct_ok fpk ⟨(hOr_ok (hWpop_ok 22 6) (hWz_ok 42 6)), noM_ok⟩ (d := 2) (ext := []) (pts := c166_59_pts) (env := c166_59_e) rfl (List.forall_mem_cons.mpr ⟨⟨c162_44_v, Nat.le_of_ble_eq_true rfl⟩, List.forall_mem_cons.mpr ⟨⟨c162_45_v, Nat.le_of_ble_eq_true rfl⟩, List.forall_mem_cons.mpr ⟨⟨c163_0_v, Nat.le_of_ble_eq_true rfl⟩, List.forall_mem_cons.mpr ⟨⟨c167_85_v, Nat.le_of_ble_eq_true rfl⟩, fun _ h => (by cases h)⟩⟩⟩⟩) ext_nil (fun q h => (by cases h)) (enF c166_59_k) (fun _ h => (by cases h))

noncomputable def c167_86 : Ct := (167, 1, (23, (zt65 []), [], [qvR 0, qvK (.ofNat 10)], zh144, [(2, [1], []), (1, [1], []), (29, [6], [(sL 1), ((.ofNat 6), []), (sL 20), (sL 21), (sL 22)])]),
  [((23, [], [], [], zh145, [(2, [1], []), (1, [1], []), (29, [6], [((.ofNat 1), [(1, (.ofNat 1))]), ((.ofNat 6), []), (sL 20), ((.ofNat 1), []), ((.ofNat 3), [])])]), 0, 0)])
noncomputable def c167_86_e : List Ct := []
noncomputable def c167_86_pts : List PE := []
set_option maxRecDepth 100000 in
theorem c167_86_k : enCtF c167_86 c167_86_e (pkP (c167_86_pts ++ []) []) (none) (noF, (mWst 9), 0, 512, 23) 3000 = true := by decide +kernel
set_option maxRecDepth 100000 in
theorem c167_86_v : ValidC PPk c167_86 := ct_ok fpk ⟨noF_ok, (mWst_ok 9)⟩ (d := 0) (ext := []) (pts := c167_86_pts) (env := c167_86_e) rfl (fun _ h => (by cases h)) ext_nil (fun q h => (by cases h)) (enF c167_86_k) (fun _ h => (by cases h))

noncomputable def c166_60 : Ct := (166, 3, (21, (zt58 []), [((.negSucc 68), [(0, (.ofNat 1)), (1, (.ofNat 1))])], [qvR 0, qvK (.ofNat 10)], zh141, [(2, [1], []), (1, [1], []), (29, [6], [(sL 1), ((.ofNat 6), []), (sL 18), (sL 19), (sL 20)])]),
  [((22, [qtN 1 1 69, qtN 19 0 0, qtN 21 2 70], [((.negSucc 69), [(0, (.ofNat 1)), (1, (.ofNat 1))]), ((.negSucc 0), [(0, (.negSucc 0)), (1, (.negSucc 0)), (21, (.ofNat 1))]), ((.negSucc 67), [(0, (.ofNat 1)), (1, (.ofNat 1)), (21, (.negSucc 0))]), ((.negSucc 68), [(0, (.ofNat 1)), (1, (.ofNat 1)), (21, (.negSucc 0))])], [qvK (.ofNat 1)], zh146, [(2, [1], []), (1, [1], []), (29, [6], [(sL 21), ((.ofNat 6), []), (sL 18), ((.ofNat 1), []), ((.ofNat 3), [])])]), 0, 0),
   ((22, [qtN 1 1 69, qtN 19 1 1, qtN 21 1 69], [((.negSucc 69), [(0, (.ofNat 1)), (1, (.ofNat 1))]), ((.negSucc 0), [(1, (.negSucc 0)), (21, (.ofNat 1))]), ((.ofNat 0), [(1, (.negSucc 0)), (21, (.ofNat 1))]), ((.negSucc 69), [(0, (.ofNat 1)), (1, (.ofNat 1)), (21, (.negSucc 0))]), ((.negSucc 68), [(0, (.ofNat 1)), (1, (.ofNat 1)), (21, (.negSucc 0))]), ((.ofNat 0), [(0, (.negSucc 0)), (1, (.negSucc 0)), (21, (.ofNat 1))])], [qvK (.ofNat 0)], zh143, [(2, [1], []), (1, [1], []), (29, [6], [(sL 21), ((.ofNat 6), []), (sL 18), (sL 19), ((.ofNat 3), [])])]), 0, 0)])
noncomputable def c166_60_e : List Ct := [c162_44, c162_45, c163_0, c167_86]
noncomputable def c166_60_pts : List PE := []
set_option maxRecDepth 100000 in
theorem c166_60_k : enCtF c166_60 c166_60_e (pkP (c166_60_pts ++ []) []) (none) ((hOr (hWpop 22 6) (hWz 42 6)), noM, 0, 4398050705408, 21) 3000 = true := by decide +kernel
set_option maxRecDepth 100000 in
theorem c166_60_v : ValidC PPk c166_60 := ct_ok fpk ⟨(hOr_ok (hWpop_ok 22 6) (hWz_ok 42 6)), noM_ok⟩ (d := 2) (ext := []) (pts := c166_60_pts) (env := c166_60_e) rfl (List.forall_mem_cons.mpr ⟨⟨c162_44_v, Nat.le_of_ble_eq_true rfl⟩, List.forall_mem_cons.mpr ⟨⟨c162_45_v, Nat.le_of_ble_eq_true rfl⟩, List.forall_mem_cons.mpr ⟨⟨c163_0_v, Nat.le_of_ble_eq_true rfl⟩, List.forall_mem_cons.mpr ⟨⟨c167_86_v, Nat.le_of_ble_eq_true rfl⟩, fun _ h => (by cases h)⟩⟩⟩⟩) ext_nil (fun q h => (by cases h)) (enF c166_60_k) (fun _ h => (by cases h))

noncomputable def c167_87 : Ct := (167, 1, (23, (zt65 []), [], [qvR 0, qvK (.ofNat 9)], zh144, [(2, [1], []), (1, [1], []), (29, [6], [(sL 1), ((.ofNat 6), []), (sL 20), (sL 21), (sL 22)])]),
  [((23, [], [], [], zh145, [(2, [1], []), (1, [1], []), (29, [6], [((.ofNat 1), [(1, (.ofNat 1))]), ((.ofNat 6), []), (sL 20), ((.ofNat 1), []), ((.ofNat 3), [])])]), 0, 0)])
noncomputable def c167_87_e : List Ct := []
noncomputable def c167_87_pts : List PE := []
set_option maxRecDepth 100000 in
theorem c167_87_k : enCtF c167_87 c167_87_e (pkP (c167_87_pts ++ []) []) (none) (noF, (mWst 9), 0, 512, 23) 3000 = true := by decide +kernel
set_option maxRecDepth 100000 in
theorem c167_87_v : ValidC PPk c167_87 := ct_ok fpk ⟨noF_ok, (mWst_ok 9)⟩ (d := 0) (ext := []) (pts := c167_87_pts) (env := c167_87_e) rfl (fun _ h => (by cases h)) ext_nil (fun q h => (by cases h)) (enF c167_87_k) (fun _ h => (by cases h))

noncomputable def c166_61 : Ct := (166, 3, (21, (zt58 []), [((.negSucc 68), [(0, (.ofNat 1)), (1, (.ofNat 1))])], [qvR 0, qvK (.ofNat 9)], zh141, [(2, [1], []), (1, [1], []), (29, [6], [(sL 1), ((.ofNat 6), []), (sL 18), (sL 19), (sL 20)])]),
  [((22, [qtN 1 1 69, qtN 19 0 0, qtN 21 2 70], [((.negSucc 69), [(0, (.ofNat 1)), (1, (.ofNat 1))]), ((.negSucc 0), [(0, (.negSucc 0)), (1, (.negSucc 0)), (21, (.ofNat 1))]), ((.negSucc 67), [(0, (.ofNat 1)), (1, (.ofNat 1)), (21, (.negSucc 0))]), ((.negSucc 68), [(0, (.ofNat 1)), (1, (.ofNat 1)), (21, (.negSucc 0))])], [qvK (.ofNat 1)], zh146, [(2, [1], []), (1, [1], []), (29, [6], [(sL 21), ((.ofNat 6), []), (sL 18), ((.ofNat 1), []), ((.ofNat 3), [])])]), 0, 0),
   ((22, [qtN 1 1 69, qtN 19 1 1, qtN 21 1 69], [((.negSucc 69), [(0, (.ofNat 1)), (1, (.ofNat 1))]), ((.negSucc 0), [(1, (.negSucc 0)), (21, (.ofNat 1))]), ((.ofNat 0), [(1, (.negSucc 0)), (21, (.ofNat 1))]), ((.negSucc 69), [(0, (.ofNat 1)), (1, (.ofNat 1)), (21, (.negSucc 0))]), ((.negSucc 68), [(0, (.ofNat 1)), (1, (.ofNat 1)), (21, (.negSucc 0))]), ((.ofNat 0), [(0, (.negSucc 0)), (1, (.negSucc 0)), (21, (.ofNat 1))])], [qvK (.ofNat 0)], zh143, [(2, [1], []), (1, [1], []), (29, [6], [(sL 21), ((.ofNat 6), []), (sL 18), (sL 19), ((.ofNat 3), [])])]), 0, 0)])
noncomputable def c166_61_e : List Ct := [c162_44, c162_45, c163_0, c167_87]
noncomputable def c166_61_pts : List PE := []
set_option maxRecDepth 100000 in
theorem c166_61_k : enCtF c166_61 c166_61_e (pkP (c166_61_pts ++ []) []) (none) ((hOr (hWpop 22 6) (hWz 42 6)), noM, 0, 4398050705408, 21) 3000 = true := by decide +kernel
set_option maxRecDepth 100000 in
theorem c166_61_v : ValidC PPk c166_61 := ct_ok fpk ⟨(hOr_ok (hWpop_ok 22 6) (hWz_ok 42 6)), noM_ok⟩ (d := 2) (ext := []) (pts := c166_61_pts) (env := c166_61_e) rfl (List.forall_mem_cons.mpr ⟨⟨c162_44_v, Nat.le_of_ble_eq_true rfl⟩, List.forall_mem_cons.mpr ⟨⟨c162_45_v, Nat.le_of_ble_eq_true rfl⟩, List.forall_mem_cons.mpr ⟨⟨c163_0_v, Nat.le_of_ble_eq_true rfl⟩, List.forall_mem_cons.mpr ⟨⟨c167_87_v, Nat.le_of_ble_eq_true rfl⟩, fun _ h => (by cases h)⟩⟩⟩⟩) ext_nil (fun q h => (by cases h)) (enF c166_61_k) (fun _ h => (by cases h))

noncomputable def c167_88 : Ct := (167, 1, (23, (zt66 []), [], [qvR 0, qvK (.ofNat 12)], zh144, [(2, [1], []), (1, [1], []), (29, [6], [(sL 1), ((.ofNat 6), []), (sL 20), (sL 21), (sL 22)])]),
  [((23, [], [], [], zh145, [(2, [1], []), (1, [1], []), (29, [6], [((.ofNat 1), [(1, (.ofNat 1))]), ((.ofNat 6), []), (sL 20), (sL 21), ((.ofNat 1), [])])]), 0, 0)])
noncomputable def c167_88_e : List Ct := []
noncomputable def c167_88_pts : List PE := []
set_option maxRecDepth 100000 in
theorem c167_88_k : enCtF c167_88 c167_88_e (pkP (c167_88_pts ++ []) []) (none) (noF, (mWst 9), 0, 512, 23) 3000 = true := by decide +kernel
set_option maxRecDepth 100000 in
theorem c167_88_v : ValidC PPk c167_88 := ct_ok fpk ⟨noF_ok, (mWst_ok 9)⟩ (d := 0) (ext := []) (pts := c167_88_pts) (env := c167_88_e) rfl (fun _ h => (by cases h)) ext_nil (fun q h => (by cases h)) (enF c167_88_k) (fun _ h => (by cases h))

noncomputable def c166_62 : Ct := (166, 3, (21, (zt58 []), [((.negSucc 68), [(0, (.ofNat 1)), (1, (.ofNat 1))])], [qvR 0, qvK (.ofNat 12)], zh141, [(2, [1], []), (1, [1], []), (29, [6], [(sL 1), ((.ofNat 6), []), (sL 18), (sL 19), (sL 20)])]),
  [((22, [qtN 1 1 69, qtN 21 2 70], [((.negSucc 69), [(0, (.ofNat 1)), (1, (.ofNat 1))]), ((.negSucc 1), [(1, (.negSucc 0)), (21, (.ofNat 1))]), ((.negSucc 0), [(1, (.negSucc 0)), (21, (.ofNat 1))]), ((.negSucc 68), [(0, (.ofNat 1)), (1, (.ofNat 1)), (21, (.negSucc 0))]), ((.negSucc 67), [(0, (.ofNat 1)), (1, (.ofNat 1)), (21, (.negSucc 0))]), ((.negSucc 0), [(0, (.negSucc 0)), (1, (.negSucc 0)), (21, (.ofNat 1))])], [qvK (.ofNat 1)], zh146, [(2, [1], []), (1, [1], []), (29, [6], [(sL 21), ((.ofNat 6), []), (sL 18), ((.ofNat 0), []), ((.ofNat 1), [])])]), 0, 0)])
noncomputable def c166_62_e : List Ct := [c162_12, c163_0, c167_88]
noncomputable def c166_62_pts : List PE := []
set_option maxRecDepth 100000 in
theorem c166_62_k : enCtF c166_62 c166_62_e (pkP (c166_62_pts ++ []) []) (none) ((hOr (hWpop 22 6) (hWz 42 6)), noM, 0, 4398050705408, 21) 3000 = true := by decide +kernel
set_option maxRecDepth 100000 in
theorem c166_62_v : ValidC PPk c166_62 := ct_ok fpk ⟨(hOr_ok (hWpop_ok 22 6) (hWz_ok 42 6)), noM_ok⟩ (d := 2) (ext := []) (pts := c166_62_pts) (env := c166_62_e) rfl (List.forall_mem_cons.mpr ⟨⟨c162_12_v, Nat.le_of_ble_eq_true rfl⟩, List.forall_mem_cons.mpr ⟨⟨c163_0_v, Nat.le_of_ble_eq_true rfl⟩, List.forall_mem_cons.mpr ⟨⟨c167_88_v, Nat.le_of_ble_eq_true rfl⟩, fun _ h => (by cases h)⟩⟩⟩) ext_nil (fun q h => (by cases h)) (enF c166_62_k) (fun _ h => (by cases h))

noncomputable def c162_46 : Ct := (162, 2, (21, (zt58 []), [((.negSucc 68), [(0, (.ofNat 1)), (1, (.ofNat 1))])], [qvR 0, qvK (.ofNat 2)], zh141, [(2, [1], []), (1, [1], []), (29, [6], [(sL 1), ((.ofNat 7), []), (sL 18), (sL 19), (sL 20)])]),
  [((23, [qtN 21 1 69, qtN 22 0 1], [((.ofNat 0), [(0, (.negSucc 0)), (1, (.negSucc 0)), (21, (.ofNat 1))]), ((.negSucc 68), [(0, (.ofNat 1)), (1, (.ofNat 1)), (21, (.negSucc 0))]), ((.negSucc 69), [(0, (.ofNat 1)), (1, (.ofNat 1)), (21, (.negSucc 0))]), ((.negSucc 69), [(0, (.ofNat 1)), (1, (.ofNat 1))]), ((.ofNat 0), [(1, (.negSucc 0)), (21, (.ofNat 1))]), ((.negSucc 0), [(1, (.negSucc 0)), (21, (.ofNat 1))])], [], zh143, [(2, [1], []), (1, [1], []), (29, [6], [(sL 21), ((.ofNat 7), []), (sL 18), ((.ofNat 0), []), (sL 22)])]), 0, 0)])
noncomputable def c162_46_e : List Ct := [c163_0, c164_0]
noncomputable def c162_46_p0 : PE := (0, [0, 1], (24, (zt59 []), [((.negSucc 68), [(0, (.ofNat 1)), (1, (.ofNat 1))]), ((.negSucc 69), [(0, (.ofNat 1)), (1, (.ofNat 1))]), ((.ofNat 0), [(0, (.negSucc 0)), (1, (.negSucc 0)), (21, (.ofNat 1))]), ((.negSucc 68), [(0, (.ofNat 1)), (1, (.ofNat 1)), (21, (.negSucc 0))]), ((.negSucc 69), [(0, (.ofNat 1)), (1, (.ofNat 1)), (21, (.negSucc 0))]), ((.ofNat 0), [(1, (.negSucc 0)), (21, (.ofNat 1))]), ((.negSucc 0), [(1, (.negSucc 0)), (21, (.ofNat 1))])], [qvR 0, qvK (.ofNat 2)], zh143, [(2, [1], []), (1, [1], []), (29, [6], [(sL 21), ((.ofNat 7), []), (sL 18), (sL 22), (sL 23)])]), symsL 21 0, some ((.ofNat 139), [(0, (.negSucc 0)), (1, (.negSucc 0)), (21, (.ofNat 1))]), 0, 0)
noncomputable def c162_46_pts : List PE := [c162_46_p0]
set_option maxRecDepth 100000 in
theorem c162_46_k : enCtF c162_46 c162_46_e (pkP (c162_46_pts ++ []) [0]) (none) ((hOr (hWpop 7 6) (hWz 52 6)), noM, 1, 4503599627370624, 21) 3000 = true := by decide +kernel
set_option maxRecDepth 100000 in
theorem c162_46_k0 : ptCtF c162_46 c162_46_e (pkP (c162_46_pts ++ []) [0]) ((hOr (hWpop 7 6) (hWz 52 6)), noM, 1, 4503599627370624, 21) 3000 c162_46_p0 = true := by decide +kernel
set_option maxRecDepth 100000 in
theorem c162_46_v : ValidC PPk c162_46 := ct_ok fpk ⟨(hOr_ok (hWpop_ok 7 6) (hWz_ok 52 6)), noM_ok⟩ (d := 1) (ext := []) (pts := c162_46_pts) (env := c162_46_e) rfl (List.forall_mem_cons.mpr ⟨⟨c163_0_v, Nat.le_of_ble_eq_true rfl⟩, List.forall_mem_cons.mpr ⟨⟨c164_0_v, Nat.le_of_ble_eq_true rfl⟩, fun _ h => (by cases h)⟩⟩) ext_nil (fun q h => (by cases h)) (enF c162_46_k) (List.forall_mem_cons.mpr ⟨⟨_, ptF c162_46_k0⟩, fun _ h => (by cases h)⟩)

noncomputable def c167_89 : Ct := (167, 1, (23, (zt62 []), [], [qvR 0, qvK (.ofNat 11)], zh144, [(2, [1], []), (1, [1], []), (29, [6], [(sL 1), ((.ofNat 7), []), (sL 20), (sL 21), (sL 22)])]),
  [((23, [], [], [], zh145, [(2, [1], []), (1, [1], []), (29, [6], [((.ofNat 1), [(1, (.ofNat 1))]), ((.ofNat 7), []), (sL 20), (sL 21), ((.ofNat 2), [])])]), 0, 0)])
noncomputable def c167_89_e : List Ct := []
noncomputable def c167_89_pts : List PE := []
set_option maxRecDepth 100000 in
theorem c167_89_k : enCtF c167_89 c167_89_e (pkP (c167_89_pts ++ []) []) (none) (noF, (mWst 9), 0, 512, 23) 3000 = true := by decide +kernel
set_option maxRecDepth 100000 in
theorem c167_89_v : ValidC PPk c167_89 := ct_ok fpk ⟨noF_ok, (mWst_ok 9)⟩ (d := 0) (ext := []) (pts := c167_89_pts) (env := c167_89_e) rfl (fun _ h => (by cases h)) ext_nil (fun q h => (by cases h)) (enF c167_89_k) (fun _ h => (by cases h))

noncomputable def c166_63 : Ct := (166, 3, (21, (zt58 []), [((.negSucc 68), [(0, (.ofNat 1)), (1, (.ofNat 1))])], [qvR 0, qvK (.ofNat 11)], zh141, [(2, [1], []), (1, [1], []), (29, [6], [(sL 1), ((.ofNat 7), []), (sL 18), (sL 19), (sL 20)])]),
  [((22, [qtN 1 1 69, qtN 21 2 70], [((.negSucc 69), [(0, (.ofNat 1)), (1, (.ofNat 1))]), ((.negSucc 1), [(1, (.negSucc 0)), (21, (.ofNat 1))]), ((.negSucc 0), [(1, (.negSucc 0)), (21, (.ofNat 1))]), ((.negSucc 68), [(0, (.ofNat 1)), (1, (.ofNat 1)), (21, (.negSucc 0))]), ((.negSucc 67), [(0, (.ofNat 1)), (1, (.ofNat 1)), (21, (.negSucc 0))]), ((.negSucc 0), [(0, (.negSucc 0)), (1, (.negSucc 0)), (21, (.ofNat 1))])], [qvK (.ofNat 1)], zh146, [(2, [1], []), (1, [1], []), (29, [6], [(sL 21), ((.ofNat 7), []), (sL 18), ((.ofNat 0), []), ((.ofNat 2), [])])]), 0, 0)])
noncomputable def c166_63_e : List Ct := [c162_46, c163_0, c167_89]
noncomputable def c166_63_pts : List PE := []
set_option maxRecDepth 100000 in
theorem c166_63_k : enCtF c166_63 c166_63_e (pkP (c166_63_pts ++ []) []) (none) ((hOr (hWpop 22 6) (hWz 42 6)), noM, 0, 4398050705408, 21) 3000 = true := by decide +kernel
set_option maxRecDepth 100000 in
theorem c166_63_v : ValidC PPk c166_63 := ct_ok fpk ⟨(hOr_ok (hWpop_ok 22 6) (hWz_ok 42 6)), noM_ok⟩ (d := 2) (ext := []) (pts := c166_63_pts) (env := c166_63_e) rfl (List.forall_mem_cons.mpr ⟨⟨c162_46_v, Nat.le_of_ble_eq_true rfl⟩, List.forall_mem_cons.mpr ⟨⟨c163_0_v, Nat.le_of_ble_eq_true rfl⟩, List.forall_mem_cons.mpr ⟨⟨c167_89_v, Nat.le_of_ble_eq_true rfl⟩, fun _ h => (by cases h)⟩⟩⟩) ext_nil (fun q h => (by cases h)) (enF c166_63_k) (fun _ h => (by cases h))

noncomputable def c162_47 : Ct := (162, 2, (21, (zt58 []), [((.negSucc 68), [(0, (.ofNat 1)), (1, (.ofNat 1))])], [qvR 0, qvK (.ofNat 5)], zh141, [(2, [1], []), (1, [1], []), (29, [6], [(sL 1), ((.ofNat 7), []), (sL 18), (sL 19), (sL 20)])]),
  [((23, [qtN 21 1 69, qtN 22 0 4], [((.ofNat 0), [(0, (.negSucc 0)), (1, (.negSucc 0)), (21, (.ofNat 1))]), ((.negSucc 68), [(0, (.ofNat 1)), (1, (.ofNat 1)), (21, (.negSucc 0))]), ((.negSucc 69), [(0, (.ofNat 1)), (1, (.ofNat 1)), (21, (.negSucc 0))]), ((.negSucc 69), [(0, (.ofNat 1)), (1, (.ofNat 1))]), ((.ofNat 0), [(1, (.negSucc 0)), (21, (.ofNat 1))]), ((.negSucc 0), [(1, (.negSucc 0)), (21, (.ofNat 1))])], [], zh143, [(2, [1], []), (1, [1], []), (29, [6], [(sL 21), ((.ofNat 7), []), (sL 18), (sL 19), (sL 22)])]), 0, 0)])
noncomputable def c162_47_e : List Ct := [c163_0, c164_0]
noncomputable def c162_47_p0 : PE := (0, [0, 1], (23, (zt61 []), [((.negSucc 68), [(0, (.ofNat 1)), (1, (.ofNat 1))]), ((.negSucc 69), [(0, (.ofNat 1)), (1, (.ofNat 1))]), ((.ofNat 0), [(0, (.negSucc 0)), (1, (.negSucc 0)), (21, (.ofNat 1))]), ((.negSucc 68), [(0, (.ofNat 1)), (1, (.ofNat 1)), (21, (.negSucc 0))]), ((.negSucc 69), [(0, (.ofNat 1)), (1, (.ofNat 1)), (21, (.negSucc 0))]), ((.ofNat 0), [(1, (.negSucc 0)), (21, (.ofNat 1))]), ((.negSucc 0), [(1, (.negSucc 0)), (21, (.ofNat 1))])], [qvR 0, qvK (.ofNat 5)], zh143, [(2, [1], []), (1, [1], []), (29, [6], [(sL 21), ((.ofNat 7), []), (sL 18), (sL 19), (sL 22)])]), symsL 21 0, some ((.ofNat 139), [(0, (.negSucc 0)), (1, (.negSucc 0)), (21, (.ofNat 1))]), 0, 0)
noncomputable def c162_47_pts : List PE := [c162_47_p0]
set_option maxRecDepth 100000 in
theorem c162_47_k : enCtF c162_47 c162_47_e (pkP (c162_47_pts ++ []) [0]) (none) ((hOr (hWpop 7 6) (hWz 52 6)), noM, 1, 4503599627370624, 21) 3000 = true := by decide +kernel
set_option maxRecDepth 100000 in
theorem c162_47_k0 : ptCtF c162_47 c162_47_e (pkP (c162_47_pts ++ []) [0]) ((hOr (hWpop 7 6) (hWz 52 6)), noM, 1, 4503599627370624, 21) 3000 c162_47_p0 = true := by decide +kernel
set_option maxRecDepth 100000 in
theorem c162_47_v : ValidC PPk c162_47 := ct_ok fpk ⟨(hOr_ok (hWpop_ok 7 6) (hWz_ok 52 6)), noM_ok⟩ (d := 1) (ext := []) (pts := c162_47_pts) (env := c162_47_e) rfl (List.forall_mem_cons.mpr ⟨⟨c163_0_v, Nat.le_of_ble_eq_true rfl⟩, List.forall_mem_cons.mpr ⟨⟨c164_0_v, Nat.le_of_ble_eq_true rfl⟩, fun _ h => (by cases h)⟩⟩) ext_nil (fun q h => (by cases h)) (enF c162_47_k) (List.forall_mem_cons.mpr ⟨⟨_, ptF c162_47_k0⟩, fun _ h => (by cases h)⟩)

noncomputable def c167_90 : Ct := (167, 1, (23, (zt63 []), [], [qvR 0, qvK (.ofNat 4)], zh144, [(2, [1], []), (1, [1], []), (29, [6], [(sL 1), ((.ofNat 7), []), (sL 20), (sL 21), (sL 22)])]),
  [((23, [], [], [], zh145, [(2, [1], []), (1, [1], []), (29, [6], [((.ofNat 1), [(1, (.ofNat 1))]), ((.ofNat 7), []), (sL 20), (sL 21), ((.ofNat 5), [])])]), 0, 0)])
noncomputable def c167_90_e : List Ct := []
noncomputable def c167_90_pts : List PE := []
set_option maxRecDepth 100000 in
theorem c167_90_k : enCtF c167_90 c167_90_e (pkP (c167_90_pts ++ []) []) (none) (noF, (mWst 9), 0, 512, 23) 3000 = true := by decide +kernel
set_option maxRecDepth 100000 in
theorem c167_90_v : ValidC PPk c167_90 := ct_ok fpk ⟨noF_ok, (mWst_ok 9)⟩ (d := 0) (ext := []) (pts := c167_90_pts) (env := c167_90_e) rfl (fun _ h => (by cases h)) ext_nil (fun q h => (by cases h)) (enF c167_90_k) (fun _ h => (by cases h))

noncomputable def c166_64 : Ct := (166, 3, (21, (zt58 []), [((.negSucc 68), [(0, (.ofNat 1)), (1, (.ofNat 1))])], [qvR 0, qvK (.ofNat 4)], zh141, [(2, [1], []), (1, [1], []), (29, [6], [(sL 1), ((.ofNat 7), []), (sL 18), (sL 19), (sL 20)])]),
  [((22, [qtN 1 1 69, qtN 21 2 70], [((.negSucc 69), [(0, (.ofNat 1)), (1, (.ofNat 1))]), ((.negSucc 1), [(1, (.negSucc 0)), (21, (.ofNat 1))]), ((.negSucc 0), [(1, (.negSucc 0)), (21, (.ofNat 1))]), ((.negSucc 68), [(0, (.ofNat 1)), (1, (.ofNat 1)), (21, (.negSucc 0))]), ((.negSucc 67), [(0, (.ofNat 1)), (1, (.ofNat 1)), (21, (.negSucc 0))]), ((.negSucc 0), [(0, (.negSucc 0)), (1, (.negSucc 0)), (21, (.ofNat 1))])], [qvK (.ofNat 1)], zh146, [(2, [1], []), (1, [1], []), (29, [6], [(sL 21), ((.ofNat 7), []), (sL 18), (sL 19), ((.ofNat 5), [])])]), 0, 0)])
noncomputable def c166_64_e : List Ct := [c162_47, c163_0, c167_90]
noncomputable def c166_64_pts : List PE := []
set_option maxRecDepth 100000 in
theorem c166_64_k : enCtF c166_64 c166_64_e (pkP (c166_64_pts ++ []) []) (none) ((hOr (hWpop 22 6) (hWz 42 6)), noM, 0, 4398050705408, 21) 3000 = true := by decide +kernel
set_option maxRecDepth 100000 in
theorem c166_64_v : ValidC PPk c166_64 := ct_ok fpk ⟨(hOr_ok (hWpop_ok 22 6) (hWz_ok 42 6)), noM_ok⟩ (d := 2) (ext := []) (pts := c166_64_pts) (env := c166_64_e) rfl (List.forall_mem_cons.mpr ⟨⟨c162_47_v, Nat.le_of_ble_eq_true rfl⟩, List.forall_mem_cons.mpr ⟨⟨c163_0_v, Nat.le_of_ble_eq_true rfl⟩, List.forall_mem_cons.mpr ⟨⟨c167_90_v, Nat.le_of_ble_eq_true rfl⟩, fun _ h => (by cases h)⟩⟩⟩) ext_nil (fun q h => (by cases h)) (enF c166_64_k) (fun _ h => (by cases h))

noncomputable def c162_48 : Ct := (162, 2, (21, (zt58 []), [((.negSucc 68), [(0, (.ofNat 1)), (1, (.ofNat 1))])], [qvR 0, qvK (.ofNat 4)], zh141, [(2, [1], []), (1, [1], []), (29, [6], [(sL 1), ((.ofNat 7), []), (sL 18), (sL 19), (sL 20)])]),
  [((23, [qtN 21 1 69, qtN 22 0 3], [((.ofNat 0), [(0, (.negSucc 0)), (1, (.negSucc 0)), (21, (.ofNat 1))]), ((.negSucc 68), [(0, (.ofNat 1)), (1, (.ofNat 1)), (21, (.negSucc 0))]), ((.negSucc 69), [(0, (.ofNat 1)), (1, (.ofNat 1)), (21, (.negSucc 0))]), ((.negSucc 69), [(0, (.ofNat 1)), (1, (.ofNat 1))]), ((.ofNat 0), [(1, (.negSucc 0)), (21, (.ofNat 1))]), ((.negSucc 0), [(1, (.negSucc 0)), (21, (.ofNat 1))])], [], zh143, [(2, [1], []), (1, [1], []), (29, [6], [(sL 21), ((.ofNat 7), []), (sL 18), (sL 19), (sL 22)])]), 0, 0)])
noncomputable def c162_48_e : List Ct := [c163_0, c164_0]
noncomputable def c162_48_p0 : PE := (0, [0, 1], (23, (zt61 []), [((.negSucc 68), [(0, (.ofNat 1)), (1, (.ofNat 1))]), ((.negSucc 69), [(0, (.ofNat 1)), (1, (.ofNat 1))]), ((.ofNat 0), [(0, (.negSucc 0)), (1, (.negSucc 0)), (21, (.ofNat 1))]), ((.negSucc 68), [(0, (.ofNat 1)), (1, (.ofNat 1)), (21, (.negSucc 0))]), ((.negSucc 69), [(0, (.ofNat 1)), (1, (.ofNat 1)), (21, (.negSucc 0))]), ((.ofNat 0), [(1, (.negSucc 0)), (21, (.ofNat 1))]), ((.negSucc 0), [(1, (.negSucc 0)), (21, (.ofNat 1))])], [qvR 0, qvK (.ofNat 4)], zh143, [(2, [1], []), (1, [1], []), (29, [6], [(sL 21), ((.ofNat 7), []), (sL 18), (sL 19), (sL 22)])]), symsL 21 0, some ((.ofNat 139), [(0, (.negSucc 0)), (1, (.negSucc 0)), (21, (.ofNat 1))]), 0, 0)
noncomputable def c162_48_pts : List PE := [c162_48_p0]
set_option maxRecDepth 100000 in
theorem c162_48_k : enCtF c162_48 c162_48_e (pkP (c162_48_pts ++ []) [0]) (none) ((hOr (hWpop 7 6) (hWz 52 6)), noM, 1, 4503599627370624, 21) 3000 = true := by decide +kernel
set_option maxRecDepth 100000 in
theorem c162_48_k0 : ptCtF c162_48 c162_48_e (pkP (c162_48_pts ++ []) [0]) ((hOr (hWpop 7 6) (hWz 52 6)), noM, 1, 4503599627370624, 21) 3000 c162_48_p0 = true := by decide +kernel
set_option maxRecDepth 100000 in
theorem c162_48_v : ValidC PPk c162_48 := ct_ok fpk ⟨(hOr_ok (hWpop_ok 7 6) (hWz_ok 52 6)), noM_ok⟩ (d := 1) (ext := []) (pts := c162_48_pts) (env := c162_48_e) rfl (List.forall_mem_cons.mpr ⟨⟨c163_0_v, Nat.le_of_ble_eq_true rfl⟩, List.forall_mem_cons.mpr ⟨⟨c164_0_v, Nat.le_of_ble_eq_true rfl⟩, fun _ h => (by cases h)⟩⟩) ext_nil (fun q h => (by cases h)) (enF c162_48_k) (List.forall_mem_cons.mpr ⟨⟨_, ptF c162_48_k0⟩, fun _ h => (by cases h)⟩)

noncomputable def c167_91 : Ct := (167, 1, (23, (zt64 []), [], [qvR 0, qvK (.ofNat 6)], zh144, [(2, [1], []), (1, [1], []), (29, [6], [(sL 1), ((.ofNat 7), []), (sL 20), (sL 21), (sL 22)])]),
  [((23, [], [], [], zh145, [(2, [1], []), (1, [1], []), (29, [6], [((.ofNat 1), [(1, (.ofNat 1))]), ((.ofNat 7), []), (sL 20), (sL 21), ((.ofNat 4), [])])]), 0, 0)])
noncomputable def c167_91_e : List Ct := []
noncomputable def c167_91_pts : List PE := []
set_option maxRecDepth 100000 in
theorem c167_91_k : enCtF c167_91 c167_91_e (pkP (c167_91_pts ++ []) []) (none) (noF, (mWst 9), 0, 512, 23) 3000 = true := by decide +kernel
set_option maxRecDepth 100000 in
theorem c167_91_v : ValidC PPk c167_91 := ct_ok fpk ⟨noF_ok, (mWst_ok 9)⟩ (d := 0) (ext := []) (pts := c167_91_pts) (env := c167_91_e) rfl (fun _ h => (by cases h)) ext_nil (fun q h => (by cases h)) (enF c167_91_k) (fun _ h => (by cases h))

noncomputable def c166_65 : Ct := (166, 3, (21, (zt58 []), [((.negSucc 68), [(0, (.ofNat 1)), (1, (.ofNat 1))])], [qvR 0, qvK (.ofNat 6)], zh141, [(2, [1], []), (1, [1], []), (29, [6], [(sL 1), ((.ofNat 7), []), (sL 18), (sL 19), (sL 20)])]),
  [((22, [qtN 1 1 69, qtN 21 2 70], [((.negSucc 69), [(0, (.ofNat 1)), (1, (.ofNat 1))]), ((.negSucc 1), [(1, (.negSucc 0)), (21, (.ofNat 1))]), ((.negSucc 0), [(1, (.negSucc 0)), (21, (.ofNat 1))]), ((.negSucc 68), [(0, (.ofNat 1)), (1, (.ofNat 1)), (21, (.negSucc 0))]), ((.negSucc 67), [(0, (.ofNat 1)), (1, (.ofNat 1)), (21, (.negSucc 0))]), ((.negSucc 0), [(0, (.negSucc 0)), (1, (.negSucc 0)), (21, (.ofNat 1))])], [qvK (.ofNat 1)], zh146, [(2, [1], []), (1, [1], []), (29, [6], [(sL 21), ((.ofNat 7), []), (sL 18), (sL 19), ((.ofNat 4), [])])]), 0, 0)])
noncomputable def c166_65_e : List Ct := [c162_48, c163_0, c167_91]
noncomputable def c166_65_pts : List PE := []
set_option maxRecDepth 100000 in
theorem c166_65_k : enCtF c166_65 c166_65_e (pkP (c166_65_pts ++ []) []) (none) ((hOr (hWpop 22 6) (hWz 42 6)), noM, 0, 4398050705408, 21) 3000 = true := by decide +kernel
set_option maxRecDepth 100000 in
theorem c166_65_v : ValidC PPk c166_65 := ct_ok fpk ⟨(hOr_ok (hWpop_ok 22 6) (hWz_ok 42 6)), noM_ok⟩ (d := 2) (ext := []) (pts := c166_65_pts) (env := c166_65_e) rfl (List.forall_mem_cons.mpr ⟨⟨c162_48_v, Nat.le_of_ble_eq_true rfl⟩, List.forall_mem_cons.mpr ⟨⟨c163_0_v, Nat.le_of_ble_eq_true rfl⟩, List.forall_mem_cons.mpr ⟨⟨c167_91_v, Nat.le_of_ble_eq_true rfl⟩, fun _ h => (by cases h)⟩⟩⟩) ext_nil (fun q h => (by cases h)) (enF c166_65_k) (fun _ h => (by cases h))

noncomputable def c167_92 : Ct := (167, 1, (23, (zt64 []), [], [qvR 0, qvK (.ofNat 7)], zh144, [(2, [1], []), (1, [1], []), (29, [6], [(sL 1), ((.ofNat 7), []), (sL 20), (sL 21), (sL 22)])]),
  [((23, [], [], [], zh145, [(2, [1], []), (1, [1], []), (29, [6], [((.ofNat 1), [(1, (.ofNat 1))]), ((.ofNat 7), []), (sL 20), (sL 21), ((.ofNat 4), [])])]), 0, 0)])
noncomputable def c167_92_e : List Ct := []
noncomputable def c167_92_pts : List PE := []
set_option maxRecDepth 100000 in
theorem c167_92_k : enCtF c167_92 c167_92_e (pkP (c167_92_pts ++ []) []) (none) (noF, (mWst 9), 0, 512, 23) 3000 = true := by decide +kernel
set_option maxRecDepth 100000 in
theorem c167_92_v : ValidC PPk c167_92 := ct_ok fpk ⟨noF_ok, (mWst_ok 9)⟩ (d := 0) (ext := []) (pts := c167_92_pts) (env := c167_92_e) rfl (fun _ h => (by cases h)) ext_nil (fun q h => (by cases h)) (enF c167_92_k) (fun _ h => (by cases h))

noncomputable def c166_66 : Ct := (166, 3, (21, (zt58 []), [((.negSucc 68), [(0, (.ofNat 1)), (1, (.ofNat 1))])], [qvR 0, qvK (.ofNat 7)], zh141, [(2, [1], []), (1, [1], []), (29, [6], [(sL 1), ((.ofNat 7), []), (sL 18), (sL 19), (sL 20)])]),
  [((22, [qtN 1 1 69, qtN 21 2 70], [((.negSucc 69), [(0, (.ofNat 1)), (1, (.ofNat 1))]), ((.negSucc 1), [(1, (.negSucc 0)), (21, (.ofNat 1))]), ((.negSucc 0), [(1, (.negSucc 0)), (21, (.ofNat 1))]), ((.negSucc 68), [(0, (.ofNat 1)), (1, (.ofNat 1)), (21, (.negSucc 0))]), ((.negSucc 67), [(0, (.ofNat 1)), (1, (.ofNat 1)), (21, (.negSucc 0))]), ((.negSucc 0), [(0, (.negSucc 0)), (1, (.negSucc 0)), (21, (.ofNat 1))])], [qvK (.ofNat 1)], zh146, [(2, [1], []), (1, [1], []), (29, [6], [(sL 21), ((.ofNat 7), []), (sL 18), (sL 19), ((.ofNat 4), [])])]), 0, 0)])
noncomputable def c166_66_e : List Ct := [c162_48, c163_0, c167_92]
noncomputable def c166_66_pts : List PE := []
set_option maxRecDepth 100000 in
theorem c166_66_k : enCtF c166_66 c166_66_e (pkP (c166_66_pts ++ []) []) (none) ((hOr (hWpop 22 6) (hWz 42 6)), noM, 0, 4398050705408, 21) 3000 = true := by decide +kernel
set_option maxRecDepth 100000 in
theorem c166_66_v : ValidC PPk c166_66 := ct_ok fpk ⟨(hOr_ok (hWpop_ok 22 6) (hWz_ok 42 6)), noM_ok⟩ (d := 2) (ext := []) (pts := c166_66_pts) (env := c166_66_e) rfl (List.forall_mem_cons.mpr ⟨⟨c162_48_v, Nat.le_of_ble_eq_true rfl⟩, List.forall_mem_cons.mpr ⟨⟨c163_0_v, Nat.le_of_ble_eq_true rfl⟩, List.forall_mem_cons.mpr ⟨⟨c167_92_v, Nat.le_of_ble_eq_true rfl⟩, fun _ h => (by cases h)⟩⟩⟩) ext_nil (fun q h => (by cases h)) (enF c166_66_k) (fun _ h => (by cases h))

noncomputable def c167_93 : Ct := (167, 1, (23, (zt63 []), [], [qvR 0, qvK (.ofNat 5)], zh144, [(2, [1], []), (1, [1], []), (29, [6], [(sL 1), ((.ofNat 7), []), (sL 20), (sL 21), (sL 22)])]),
  [((23, [], [], [], zh145, [(2, [1], []), (1, [1], []), (29, [6], [((.ofNat 1), [(1, (.ofNat 1))]), ((.ofNat 7), []), (sL 20), (sL 21), ((.ofNat 5), [])])]), 0, 0)])
noncomputable def c167_93_e : List Ct := []
noncomputable def c167_93_pts : List PE := []
set_option maxRecDepth 100000 in
theorem c167_93_k : enCtF c167_93 c167_93_e (pkP (c167_93_pts ++ []) []) (none) (noF, (mWst 9), 0, 512, 23) 3000 = true := by decide +kernel
set_option maxRecDepth 100000 in
theorem c167_93_v : ValidC PPk c167_93 := ct_ok fpk ⟨noF_ok, (mWst_ok 9)⟩ (d := 0) (ext := []) (pts := c167_93_pts) (env := c167_93_e) rfl (fun _ h => (by cases h)) ext_nil (fun q h => (by cases h)) (enF c167_93_k) (fun _ h => (by cases h))

noncomputable def c166_67 : Ct := (166, 3, (21, (zt58 []), [((.negSucc 68), [(0, (.ofNat 1)), (1, (.ofNat 1))])], [qvR 0, qvK (.ofNat 5)], zh141, [(2, [1], []), (1, [1], []), (29, [6], [(sL 1), ((.ofNat 7), []), (sL 18), (sL 19), (sL 20)])]),
  [((22, [qtN 1 1 69, qtN 21 2 70], [((.negSucc 69), [(0, (.ofNat 1)), (1, (.ofNat 1))]), ((.negSucc 1), [(1, (.negSucc 0)), (21, (.ofNat 1))]), ((.negSucc 0), [(1, (.negSucc 0)), (21, (.ofNat 1))]), ((.negSucc 68), [(0, (.ofNat 1)), (1, (.ofNat 1)), (21, (.negSucc 0))]), ((.negSucc 67), [(0, (.ofNat 1)), (1, (.ofNat 1)), (21, (.negSucc 0))]), ((.negSucc 0), [(0, (.negSucc 0)), (1, (.negSucc 0)), (21, (.ofNat 1))])], [qvK (.ofNat 1)], zh146, [(2, [1], []), (1, [1], []), (29, [6], [(sL 21), ((.ofNat 7), []), (sL 18), (sL 19), ((.ofNat 5), [])])]), 0, 0)])
noncomputable def c166_67_e : List Ct := [c162_47, c163_0, c167_93]
noncomputable def c166_67_pts : List PE := []
set_option maxRecDepth 100000 in
theorem c166_67_k : enCtF c166_67 c166_67_e (pkP (c166_67_pts ++ []) []) (none) ((hOr (hWpop 22 6) (hWz 42 6)), noM, 0, 4398050705408, 21) 3000 = true := by decide +kernel
set_option maxRecDepth 100000 in
theorem c166_67_v : ValidC PPk c166_67 := ct_ok fpk ⟨(hOr_ok (hWpop_ok 22 6) (hWz_ok 42 6)), noM_ok⟩ (d := 2) (ext := []) (pts := c166_67_pts) (env := c166_67_e) rfl (List.forall_mem_cons.mpr ⟨⟨c162_47_v, Nat.le_of_ble_eq_true rfl⟩, List.forall_mem_cons.mpr ⟨⟨c163_0_v, Nat.le_of_ble_eq_true rfl⟩, List.forall_mem_cons.mpr ⟨⟨c167_93_v, Nat.le_of_ble_eq_true rfl⟩, fun _ h => (by cases h)⟩⟩⟩) ext_nil (fun q h => (by cases h)) (enF c166_67_k) (fun _ h => (by cases h))

noncomputable def c162_49 : Ct := (162, 2, (21, (zt58 []), [((.negSucc 68), [(0, (.ofNat 1)), (1, (.ofNat 1))])], [qvR 0, qvK (.ofNat 3)], zh141, [(2, [1], []), (1, [1], []), (29, [6], [(sL 1), ((.ofNat 7), []), (sL 18), (sL 19), (sL 20)])]),
  [((23, [qtN 21 1 69, qtN 22 0 2], [((.ofNat 0), [(0, (.negSucc 0)), (1, (.negSucc 0)), (21, (.ofNat 1))]), ((.negSucc 68), [(0, (.ofNat 1)), (1, (.ofNat 1)), (21, (.negSucc 0))]), ((.negSucc 69), [(0, (.ofNat 1)), (1, (.ofNat 1)), (21, (.negSucc 0))]), ((.negSucc 69), [(0, (.ofNat 1)), (1, (.ofNat 1))]), ((.ofNat 0), [(1, (.negSucc 0)), (21, (.ofNat 1))]), ((.negSucc 0), [(1, (.negSucc 0)), (21, (.ofNat 1))])], [], zh143, [(2, [1], []), (1, [1], []), (29, [6], [(sL 21), ((.ofNat 7), []), (sL 18), ((.ofNat 0), []), (sL 22)])]), 0, 0)])
noncomputable def c162_49_e : List Ct := [c163_0, c164_0]
noncomputable def c162_49_p0 : PE := (0, [0, 1], (24, (zt59 []), [((.negSucc 68), [(0, (.ofNat 1)), (1, (.ofNat 1))]), ((.negSucc 69), [(0, (.ofNat 1)), (1, (.ofNat 1))]), ((.ofNat 0), [(0, (.negSucc 0)), (1, (.negSucc 0)), (21, (.ofNat 1))]), ((.negSucc 68), [(0, (.ofNat 1)), (1, (.ofNat 1)), (21, (.negSucc 0))]), ((.negSucc 69), [(0, (.ofNat 1)), (1, (.ofNat 1)), (21, (.negSucc 0))]), ((.ofNat 0), [(1, (.negSucc 0)), (21, (.ofNat 1))]), ((.negSucc 0), [(1, (.negSucc 0)), (21, (.ofNat 1))])], [qvR 0, qvK (.ofNat 3)], zh143, [(2, [1], []), (1, [1], []), (29, [6], [(sL 21), ((.ofNat 7), []), (sL 18), (sL 22), (sL 23)])]), symsL 21 0, some ((.ofNat 139), [(0, (.negSucc 0)), (1, (.negSucc 0)), (21, (.ofNat 1))]), 0, 0)
noncomputable def c162_49_pts : List PE := [c162_49_p0]
set_option maxRecDepth 100000 in
theorem c162_49_k : enCtF c162_49 c162_49_e (pkP (c162_49_pts ++ []) [0]) (none) ((hOr (hWpop 7 6) (hWz 52 6)), noM, 1, 4503599627370624, 21) 3000 = true := by decide +kernel
set_option maxRecDepth 100000 in
theorem c162_49_k0 : ptCtF c162_49 c162_49_e (pkP (c162_49_pts ++ []) [0]) ((hOr (hWpop 7 6) (hWz 52 6)), noM, 1, 4503599627370624, 21) 3000 c162_49_p0 = true := by decide +kernel
set_option maxRecDepth 100000 in
theorem c162_49_v : ValidC PPk c162_49 := ct_ok fpk ⟨(hOr_ok (hWpop_ok 7 6) (hWz_ok 52 6)), noM_ok⟩ (d := 1) (ext := []) (pts := c162_49_pts) (env := c162_49_e) rfl (List.forall_mem_cons.mpr ⟨⟨c163_0_v, Nat.le_of_ble_eq_true rfl⟩, List.forall_mem_cons.mpr ⟨⟨c164_0_v, Nat.le_of_ble_eq_true rfl⟩, fun _ h => (by cases h)⟩⟩) ext_nil (fun q h => (by cases h)) (enF c162_49_k) (List.forall_mem_cons.mpr ⟨⟨_, ptF c162_49_k0⟩, fun _ h => (by cases h)⟩)

noncomputable def c167_94 : Ct := (167, 1, (23, (zt65 []), [], [qvR 0, qvK (.ofNat 8)], zh144, [(2, [1], []), (1, [1], []), (29, [6], [(sL 1), ((.ofNat 7), []), (sL 20), (sL 21), (sL 22)])]),
  [((23, [], [], [], zh145, [(2, [1], []), (1, [1], []), (29, [6], [((.ofNat 1), [(1, (.ofNat 1))]), ((.ofNat 7), []), (sL 20), ((.ofNat 1), []), ((.ofNat 3), [])])]), 0, 0)])
noncomputable def c167_94_e : List Ct := []
noncomputable def c167_94_pts : List PE := []
set_option maxRecDepth 100000 in
theorem c167_94_k : enCtF c167_94 c167_94_e (pkP (c167_94_pts ++ []) []) (none) (noF, (mWst 9), 0, 512, 23) 3000 = true := by decide +kernel
set_option maxRecDepth 100000 in
theorem c167_94_v : ValidC PPk c167_94 := ct_ok fpk ⟨noF_ok, (mWst_ok 9)⟩ (d := 0) (ext := []) (pts := c167_94_pts) (env := c167_94_e) rfl (fun _ h => (by cases h)) ext_nil (fun q h => (by cases h)) (enF c167_94_k) (fun _ h => (by cases h))

noncomputable def c166_68 : Ct := (166, 3, (21, (zt58 []), [((.negSucc 68), [(0, (.ofNat 1)), (1, (.ofNat 1))])], [qvR 0, qvK (.ofNat 8)], zh141, [(2, [1], []), (1, [1], []), (29, [6], [(sL 1), ((.ofNat 7), []), (sL 18), (sL 19), (sL 20)])]),
  [((22, [qtN 1 1 69, qtN 19 0 0, qtN 21 2 70], [((.negSucc 69), [(0, (.ofNat 1)), (1, (.ofNat 1))]), ((.negSucc 0), [(0, (.negSucc 0)), (1, (.negSucc 0)), (21, (.ofNat 1))]), ((.negSucc 67), [(0, (.ofNat 1)), (1, (.ofNat 1)), (21, (.negSucc 0))]), ((.negSucc 68), [(0, (.ofNat 1)), (1, (.ofNat 1)), (21, (.negSucc 0))])], [qvK (.ofNat 1)], zh146, [(2, [1], []), (1, [1], []), (29, [6], [(sL 21), ((.ofNat 7), []), (sL 18), ((.ofNat 1), []), ((.ofNat 3), [])])]), 0, 0),
   ((22, [qtN 1 1 69, qtN 19 1 1, qtN 21 1 69], [((.negSucc 69), [(0, (.ofNat 1)), (1, (.ofNat 1))]), ((.negSucc 0), [(1, (.negSucc 0)), (21, (.ofNat 1))]), ((.ofNat 0), [(1, (.negSucc 0)), (21, (.ofNat 1))]), ((.negSucc 69), [(0, (.ofNat 1)), (1, (.ofNat 1)), (21, (.negSucc 0))]), ((.negSucc 68), [(0, (.ofNat 1)), (1, (.ofNat 1)), (21, (.negSucc 0))]), ((.ofNat 0), [(0, (.negSucc 0)), (1, (.negSucc 0)), (21, (.ofNat 1))])], [qvK (.ofNat 0)], zh143, [(2, [1], []), (1, [1], []), (29, [6], [(sL 21), ((.ofNat 7), []), (sL 18), (sL 19), ((.ofNat 3), [])])]), 0, 0)])
noncomputable def c166_68_e : List Ct := [c162_48, c162_49, c163_0, c167_94]
noncomputable def c166_68_pts : List PE := []
set_option maxRecDepth 100000 in
theorem c166_68_k : enCtF c166_68 c166_68_e (pkP (c166_68_pts ++ []) []) (none) ((hOr (hWpop 22 6) (hWz 42 6)), noM, 0, 4398050705408, 21) 3000 = true := by decide +kernel
set_option maxRecDepth 100000 in
theorem c166_68_v : ValidC PPk c166_68 := ct_ok fpk ⟨(hOr_ok (hWpop_ok 22 6) (hWz_ok 42 6)), noM_ok⟩ (d := 2) (ext := []) (pts := c166_68_pts) (env := c166_68_e) rfl (List.forall_mem_cons.mpr ⟨⟨c162_48_v, Nat.le_of_ble_eq_true rfl⟩, List.forall_mem_cons.mpr ⟨⟨c162_49_v, Nat.le_of_ble_eq_true rfl⟩, List.forall_mem_cons.mpr ⟨⟨c163_0_v, Nat.le_of_ble_eq_true rfl⟩, List.forall_mem_cons.mpr ⟨⟨c167_94_v, Nat.le_of_ble_eq_true rfl⟩, fun _ h => (by cases h)⟩⟩⟩⟩) ext_nil (fun q h => (by cases h)) (enF c166_68_k) (fun _ h => (by cases h))

noncomputable def c167_95 : Ct := (167, 1, (23, (zt65 []), [], [qvR 0, qvK (.ofNat 10)], zh144, [(2, [1], []), (1, [1], []), (29, [6], [(sL 1), ((.ofNat 7), []), (sL 20), (sL 21), (sL 22)])]),
  [((23, [], [], [], zh145, [(2, [1], []), (1, [1], []), (29, [6], [((.ofNat 1), [(1, (.ofNat 1))]), ((.ofNat 7), []), (sL 20), ((.ofNat 1), []), ((.ofNat 3), [])])]), 0, 0)])
noncomputable def c167_95_e : List Ct := []
noncomputable def c167_95_pts : List PE := []
set_option maxRecDepth 100000 in
theorem c167_95_k : enCtF c167_95 c167_95_e (pkP (c167_95_pts ++ []) []) (none) (noF, (mWst 9), 0, 512, 23) 3000 = true := by decide +kernel
set_option maxRecDepth 100000 in
theorem c167_95_v : ValidC PPk c167_95 := ct_ok fpk ⟨noF_ok, (mWst_ok 9)⟩ (d := 0) (ext := []) (pts := c167_95_pts) (env := c167_95_e) rfl (fun _ h => (by cases h)) ext_nil (fun q h => (by cases h)) (enF c167_95_k) (fun _ h => (by cases h))

noncomputable def c166_69 : Ct := (166, 3, (21, (zt58 []), [((.negSucc 68), [(0, (.ofNat 1)), (1, (.ofNat 1))])], [qvR 0, qvK (.ofNat 10)], zh141, [(2, [1], []), (1, [1], []), (29, [6], [(sL 1), ((.ofNat 7), []), (sL 18), (sL 19), (sL 20)])]),
  [((22, [qtN 1 1 69, qtN 19 0 0, qtN 21 2 70], [((.negSucc 69), [(0, (.ofNat 1)), (1, (.ofNat 1))]), ((.negSucc 0), [(0, (.negSucc 0)), (1, (.negSucc 0)), (21, (.ofNat 1))]), ((.negSucc 67), [(0, (.ofNat 1)), (1, (.ofNat 1)), (21, (.negSucc 0))]), ((.negSucc 68), [(0, (.ofNat 1)), (1, (.ofNat 1)), (21, (.negSucc 0))])], [qvK (.ofNat 1)], zh146, [(2, [1], []), (1, [1], []), (29, [6], [(sL 21), ((.ofNat 7), []), (sL 18), ((.ofNat 1), []), ((.ofNat 3), [])])]), 0, 0),
   ((22, [qtN 1 1 69, qtN 19 1 1, qtN 21 1 69], [((.negSucc 69), [(0, (.ofNat 1)), (1, (.ofNat 1))]), ((.negSucc 0), [(1, (.negSucc 0)), (21, (.ofNat 1))]), ((.ofNat 0), [(1, (.negSucc 0)), (21, (.ofNat 1))]), ((.negSucc 69), [(0, (.ofNat 1)), (1, (.ofNat 1)), (21, (.negSucc 0))]), ((.negSucc 68), [(0, (.ofNat 1)), (1, (.ofNat 1)), (21, (.negSucc 0))]), ((.ofNat 0), [(0, (.negSucc 0)), (1, (.negSucc 0)), (21, (.ofNat 1))])], [qvK (.ofNat 0)], zh143, [(2, [1], []), (1, [1], []), (29, [6], [(sL 21), ((.ofNat 7), []), (sL 18), (sL 19), ((.ofNat 3), [])])]), 0, 0)])
noncomputable def c166_69_e : List Ct := [c162_48, c162_49, c163_0, c167_95]
noncomputable def c166_69_pts : List PE := []
set_option maxRecDepth 100000 in
theorem c166_69_k : enCtF c166_69 c166_69_e (pkP (c166_69_pts ++ []) []) (none) ((hOr (hWpop 22 6) (hWz 42 6)), noM, 0, 4398050705408, 21) 3000 = true := by decide +kernel
set_option maxRecDepth 100000 in
theorem c166_69_v : ValidC PPk c166_69 := ct_ok fpk ⟨(hOr_ok (hWpop_ok 22 6) (hWz_ok 42 6)), noM_ok⟩ (d := 2) (ext := []) (pts := c166_69_pts) (env := c166_69_e) rfl (List.forall_mem_cons.mpr ⟨⟨c162_48_v, Nat.le_of_ble_eq_true rfl⟩, List.forall_mem_cons.mpr ⟨⟨c162_49_v, Nat.le_of_ble_eq_true rfl⟩, List.forall_mem_cons.mpr ⟨⟨c163_0_v, Nat.le_of_ble_eq_true rfl⟩, List.forall_mem_cons.mpr ⟨⟨c167_95_v, Nat.le_of_ble_eq_true rfl⟩, fun _ h => (by cases h)⟩⟩⟩⟩) ext_nil (fun q h => (by cases h)) (enF c166_69_k) (fun _ h => (by cases h))

noncomputable def c167_96 : Ct := (167, 1, (23, (zt65 []), [], [qvR 0, qvK (.ofNat 9)], zh144, [(2, [1], []), (1, [1], []), (29, [6], [(sL 1), ((.ofNat 7), []), (sL 20), (sL 21), (sL 22)])]),
  [((23, [], [], [], zh145, [(2, [1], []), (1, [1], []), (29, [6], [((.ofNat 1), [(1, (.ofNat 1))]), ((.ofNat 7), []), (sL 20), ((.ofNat 1), []), ((.ofNat 3), [])])]), 0, 0)])
noncomputable def c167_96_e : List Ct := []
noncomputable def c167_96_pts : List PE := []
set_option maxRecDepth 100000 in
theorem c167_96_k : enCtF c167_96 c167_96_e (pkP (c167_96_pts ++ []) []) (none) (noF, (mWst 9), 0, 512, 23) 3000 = true := by decide +kernel
set_option maxRecDepth 100000 in
theorem c167_96_v : ValidC PPk c167_96 := ct_ok fpk ⟨noF_ok, (mWst_ok 9)⟩ (d := 0) (ext := []) (pts := c167_96_pts) (env := c167_96_e) rfl (fun _ h => (by cases h)) ext_nil (fun q h => (by cases h)) (enF c167_96_k) (fun _ h => (by cases h))

noncomputable def c166_70 : Ct := (166, 3, (21, (zt58 []), [((.negSucc 68), [(0, (.ofNat 1)), (1, (.ofNat 1))])], [qvR 0, qvK (.ofNat 9)], zh141, [(2, [1], []), (1, [1], []), (29, [6], [(sL 1), ((.ofNat 7), []), (sL 18), (sL 19), (sL 20)])]),
  [((22, [qtN 1 1 69, qtN 19 0 0, qtN 21 2 70], [((.negSucc 69), [(0, (.ofNat 1)), (1, (.ofNat 1))]), ((.negSucc 0), [(0, (.negSucc 0)), (1, (.negSucc 0)), (21, (.ofNat 1))]), ((.negSucc 67), [(0, (.ofNat 1)), (1, (.ofNat 1)), (21, (.negSucc 0))]), ((.negSucc 68), [(0, (.ofNat 1)), (1, (.ofNat 1)), (21, (.negSucc 0))])], [qvK (.ofNat 1)], zh146, [(2, [1], []), (1, [1], []), (29, [6], [(sL 21), ((.ofNat 7), []), (sL 18), ((.ofNat 1), []), ((.ofNat 3), [])])]), 0, 0),
   ((22, [qtN 1 1 69, qtN 19 1 1, qtN 21 1 69], [((.negSucc 69), [(0, (.ofNat 1)), (1, (.ofNat 1))]), ((.negSucc 0), [(1, (.negSucc 0)), (21, (.ofNat 1))]), ((.ofNat 0), [(1, (.negSucc 0)), (21, (.ofNat 1))]), ((.negSucc 69), [(0, (.ofNat 1)), (1, (.ofNat 1)), (21, (.negSucc 0))]), ((.negSucc 68), [(0, (.ofNat 1)), (1, (.ofNat 1)), (21, (.negSucc 0))]), ((.ofNat 0), [(0, (.negSucc 0)), (1, (.negSucc 0)), (21, (.ofNat 1))])], [qvK (.ofNat 0)], zh143, [(2, [1], []), (1, [1], []), (29, [6], [(sL 21), ((.ofNat 7), []), (sL 18), (sL 19), ((.ofNat 3), [])])]), 0, 0)])
noncomputable def c166_70_e : List Ct := [c162_48, c162_49, c163_0, c167_96]
noncomputable def c166_70_pts : List PE := []
set_option maxRecDepth 100000 in
theorem c166_70_k : enCtF c166_70 c166_70_e (pkP (c166_70_pts ++ []) []) (none) ((hOr (hWpop 22 6) (hWz 42 6)), noM, 0, 4398050705408, 21) 3000 = true := by decide +kernel
set_option maxRecDepth 100000 in
theorem c166_70_v : ValidC PPk c166_70 := ct_ok fpk ⟨(hOr_ok (hWpop_ok 22 6) (hWz_ok 42 6)), noM_ok⟩ (d := 2) (ext := []) (pts := c166_70_pts) (env := c166_70_e) rfl (List.forall_mem_cons.mpr ⟨⟨c162_48_v, Nat.le_of_ble_eq_true rfl⟩, List.forall_mem_cons.mpr ⟨⟨c162_49_v, Nat.le_of_ble_eq_true rfl⟩, List.forall_mem_cons.mpr ⟨⟨c163_0_v, Nat.le_of_ble_eq_true rfl⟩, List.forall_mem_cons.mpr ⟨⟨c167_96_v, Nat.le_of_ble_eq_true rfl⟩, fun _ h => (by cases h)⟩⟩⟩⟩) ext_nil (fun q h => (by cases h)) (enF c166_70_k) (fun _ h => (by cases h))

noncomputable def c167_97 : Ct := (167, 1, (23, (zt66 []), [], [qvR 0, qvK (.ofNat 12)], zh144, [(2, [1], []), (1, [1], []), (29, [6], [(sL 1), ((.ofNat 7), []), (sL 20), (sL 21), (sL 22)])]),
  [((23, [], [], [], zh145, [(2, [1], []), (1, [1], []), (29, [6], [((.ofNat 1), [(1, (.ofNat 1))]), ((.ofNat 7), []), (sL 20), (sL 21), ((.ofNat 1), [])])]), 0, 0)])
noncomputable def c167_97_e : List Ct := []
noncomputable def c167_97_pts : List PE := []
set_option maxRecDepth 100000 in
theorem c167_97_k : enCtF c167_97 c167_97_e (pkP (c167_97_pts ++ []) []) (none) (noF, (mWst 9), 0, 512, 23) 3000 = true := by decide +kernel
set_option maxRecDepth 100000 in
theorem c167_97_v : ValidC PPk c167_97 := ct_ok fpk ⟨noF_ok, (mWst_ok 9)⟩ (d := 0) (ext := []) (pts := c167_97_pts) (env := c167_97_e) rfl (fun _ h => (by cases h)) ext_nil (fun q h => (by cases h)) (enF c167_97_k) (fun _ h => (by cases h))

noncomputable def c166_71 : Ct := (166, 3, (21, (zt58 []), [((.negSucc 68), [(0, (.ofNat 1)), (1, (.ofNat 1))])], [qvR 0, qvK (.ofNat 12)], zh141, [(2, [1], []), (1, [1], []), (29, [6], [(sL 1), ((.ofNat 7), []), (sL 18), (sL 19), (sL 20)])]),
  [((22, [qtN 1 1 69, qtN 21 2 70], [((.negSucc 69), [(0, (.ofNat 1)), (1, (.ofNat 1))]), ((.negSucc 1), [(1, (.negSucc 0)), (21, (.ofNat 1))]), ((.negSucc 0), [(1, (.negSucc 0)), (21, (.ofNat 1))]), ((.negSucc 68), [(0, (.ofNat 1)), (1, (.ofNat 1)), (21, (.negSucc 0))]), ((.negSucc 67), [(0, (.ofNat 1)), (1, (.ofNat 1)), (21, (.negSucc 0))]), ((.negSucc 0), [(0, (.negSucc 0)), (1, (.negSucc 0)), (21, (.ofNat 1))])], [qvK (.ofNat 1)], zh146, [(2, [1], []), (1, [1], []), (29, [6], [(sL 21), ((.ofNat 7), []), (sL 18), ((.ofNat 0), []), ((.ofNat 1), [])])]), 0, 0)])
noncomputable def c166_71_e : List Ct := [c162_14, c163_0, c167_97]
noncomputable def c166_71_pts : List PE := []
set_option maxRecDepth 100000 in
theorem c166_71_k : enCtF c166_71 c166_71_e (pkP (c166_71_pts ++ []) []) (none) ((hOr (hWpop 22 6) (hWz 42 6)), noM, 0, 4398050705408, 21) 3000 = true := by decide +kernel
set_option maxRecDepth 100000 in
theorem c166_71_v : ValidC PPk c166_71 := ct_ok fpk ⟨(hOr_ok (hWpop_ok 22 6) (hWz_ok 42 6)), noM_ok⟩ (d := 2) (ext := []) (pts := c166_71_pts) (env := c166_71_e) rfl (List.forall_mem_cons.mpr ⟨⟨c162_14_v, Nat.le_of_ble_eq_true rfl⟩, List.forall_mem_cons.mpr ⟨⟨c163_0_v, Nat.le_of_ble_eq_true rfl⟩, List.forall_mem_cons.mpr ⟨⟨c167_97_v, Nat.le_of_ble_eq_true rfl⟩, fun _ h => (by cases h)⟩⟩⟩) ext_nil (fun q h => (by cases h)) (enF c166_71_k) (fun _ h => (by cases h))

noncomputable def c162_50 : Ct := (162, 2, (21, (zt58 []), [((.negSucc 68), [(0, (.ofNat 1)), (1, (.ofNat 1))])], [qvR 0, qvK (.ofNat 2)], zh141, [(2, [1], []), (1, [1], []), (29, [6], [(sL 1), ((.ofNat 8), []), (sL 18), (sL 19), (sL 20)])]),
  [((23, [qtN 21 1 69, qtN 22 0 1], [((.ofNat 0), [(0, (.negSucc 0)), (1, (.negSucc 0)), (21, (.ofNat 1))]), ((.negSucc 68), [(0, (.ofNat 1)), (1, (.ofNat 1)), (21, (.negSucc 0))]), ((.negSucc 69), [(0, (.ofNat 1)), (1, (.ofNat 1)), (21, (.negSucc 0))]), ((.negSucc 69), [(0, (.ofNat 1)), (1, (.ofNat 1))]), ((.ofNat 0), [(1, (.negSucc 0)), (21, (.ofNat 1))]), ((.negSucc 0), [(1, (.negSucc 0)), (21, (.ofNat 1))])], [], zh143, [(2, [1], []), (1, [1], []), (29, [6], [(sL 21), ((.ofNat 8), []), (sL 18), ((.ofNat 0), []), (sL 22)])]), 0, 0)])
noncomputable def c162_50_e : List Ct := [c163_0, c164_0]
noncomputable def c162_50_p0 : PE := (0, [0, 1], (24, (zt59 []), [((.negSucc 68), [(0, (.ofNat 1)), (1, (.ofNat 1))]), ((.negSucc 69), [(0, (.ofNat 1)), (1, (.ofNat 1))]), ((.ofNat 0), [(0, (.negSucc 0)), (1, (.negSucc 0)), (21, (.ofNat 1))]), ((.negSucc 68), [(0, (.ofNat 1)), (1, (.ofNat 1)), (21, (.negSucc 0))]), ((.negSucc 69), [(0, (.ofNat 1)), (1, (.ofNat 1)), (21, (.negSucc 0))]), ((.ofNat 0), [(1, (.negSucc 0)), (21, (.ofNat 1))]), ((.negSucc 0), [(1, (.negSucc 0)), (21, (.ofNat 1))])], [qvR 0, qvK (.ofNat 2)], zh143, [(2, [1], []), (1, [1], []), (29, [6], [(sL 21), ((.ofNat 8), []), (sL 18), (sL 22), (sL 23)])]), symsL 21 0, some ((.ofNat 139), [(0, (.negSucc 0)), (1, (.negSucc 0)), (21, (.ofNat 1))]), 0, 0)
noncomputable def c162_50_pts : List PE := [c162_50_p0]
set_option maxRecDepth 100000 in
theorem c162_50_k : enCtF c162_50 c162_50_e (pkP (c162_50_pts ++ []) [0]) (none) ((hOr (hWpop 7 6) (hWz 52 6)), noM, 1, 4503599627370624, 21) 3000 = true := by decide +kernel
set_option maxRecDepth 100000 in
theorem c162_50_k0 : ptCtF c162_50 c162_50_e (pkP (c162_50_pts ++ []) [0]) ((hOr (hWpop 7 6) (hWz 52 6)), noM, 1, 4503599627370624, 21) 3000 c162_50_p0 = true := by decide +kernel
set_option maxRecDepth 100000 in
theorem c162_50_v : ValidC PPk c162_50 := ct_ok fpk ⟨(hOr_ok (hWpop_ok 7 6) (hWz_ok 52 6)), noM_ok⟩ (d := 1) (ext := []) (pts := c162_50_pts) (env := c162_50_e) rfl (List.forall_mem_cons.mpr ⟨⟨c163_0_v, Nat.le_of_ble_eq_true rfl⟩, List.forall_mem_cons.mpr ⟨⟨c164_0_v, Nat.le_of_ble_eq_true rfl⟩, fun _ h => (by cases h)⟩⟩) ext_nil (fun q h => (by cases h)) (enF c162_50_k) (List.forall_mem_cons.mpr ⟨⟨_, ptF c162_50_k0⟩, fun _ h => (by cases h)⟩)

noncomputable def c167_98 : Ct := (167, 1, (23, (zt62 []), [], [qvR 0, qvK (.ofNat 11)], zh144, [(2, [1], []), (1, [1], []), (29, [6], [(sL 1), ((.ofNat 8), []), (sL 20), (sL 21), (sL 22)])]),
  [((23, [], [], [], zh145, [(2, [1], []), (1, [1], []), (29, [6], [((.ofNat 1), [(1, (.ofNat 1))]), ((.ofNat 8), []), (sL 20), (sL 21), ((.ofNat 2), [])])]), 0, 0)])
noncomputable def c167_98_e : List Ct := []
noncomputable def c167_98_pts : List PE := []
set_option maxRecDepth 100000 in
theorem c167_98_k : enCtF c167_98 c167_98_e (pkP (c167_98_pts ++ []) []) (none) (noF, (mWst 9), 0, 512, 23) 3000 = true := by decide +kernel
set_option maxRecDepth 100000 in
theorem c167_98_v : ValidC PPk c167_98 := ct_ok fpk ⟨noF_ok, (mWst_ok 9)⟩ (d := 0) (ext := []) (pts := c167_98_pts) (env := c167_98_e) rfl (fun _ h => (by cases h)) ext_nil (fun q h => (by cases h)) (enF c167_98_k) (fun _ h => (by cases h))

noncomputable def c166_72 : Ct := (166, 3, (21, (zt58 []), [((.negSucc 68), [(0, (.ofNat 1)), (1, (.ofNat 1))])], [qvR 0, qvK (.ofNat 11)], zh141, [(2, [1], []), (1, [1], []), (29, [6], [(sL 1), ((.ofNat 8), []), (sL 18), (sL 19), (sL 20)])]),
  [((22, [qtN 1 1 69, qtN 21 2 70], [((.negSucc 69), [(0, (.ofNat 1)), (1, (.ofNat 1))]), ((.negSucc 1), [(1, (.negSucc 0)), (21, (.ofNat 1))]), ((.negSucc 0), [(1, (.negSucc 0)), (21, (.ofNat 1))]), ((.negSucc 68), [(0, (.ofNat 1)), (1, (.ofNat 1)), (21, (.negSucc 0))]), ((.negSucc 67), [(0, (.ofNat 1)), (1, (.ofNat 1)), (21, (.negSucc 0))]), ((.negSucc 0), [(0, (.negSucc 0)), (1, (.negSucc 0)), (21, (.ofNat 1))])], [qvK (.ofNat 1)], zh146, [(2, [1], []), (1, [1], []), (29, [6], [(sL 21), ((.ofNat 8), []), (sL 18), ((.ofNat 0), []), ((.ofNat 2), [])])]), 0, 0)])
noncomputable def c166_72_e : List Ct := [c162_50, c163_0, c167_98]
noncomputable def c166_72_pts : List PE := []
set_option maxRecDepth 100000 in
theorem c166_72_k : enCtF c166_72 c166_72_e (pkP (c166_72_pts ++ []) []) (none) ((hOr (hWpop 22 6) (hWz 42 6)), noM, 0, 4398050705408, 21) 3000 = true := by decide +kernel
set_option maxRecDepth 100000 in
theorem c166_72_v : ValidC PPk c166_72 := ct_ok fpk ⟨(hOr_ok (hWpop_ok 22 6) (hWz_ok 42 6)), noM_ok⟩ (d := 2) (ext := []) (pts := c166_72_pts) (env := c166_72_e) rfl (List.forall_mem_cons.mpr ⟨⟨c162_50_v, Nat.le_of_ble_eq_true rfl⟩, List.forall_mem_cons.mpr ⟨⟨c163_0_v, Nat.le_of_ble_eq_true rfl⟩, List.forall_mem_cons.mpr ⟨⟨c167_98_v, Nat.le_of_ble_eq_true rfl⟩, fun _ h => (by cases h)⟩⟩⟩) ext_nil (fun q h => (by cases h)) (enF c166_72_k) (fun _ h => (by cases h))

noncomputable def c162_51 : Ct := (162, 2, (21, (zt58 []), [((.negSucc 68), [(0, (.ofNat 1)), (1, (.ofNat 1))])], [qvR 0, qvK (.ofNat 5)], zh141, [(2, [1], []), (1, [1], []), (29, [6], [(sL 1), ((.ofNat 8), []), (sL 18), (sL 19), (sL 20)])]),
  [((23, [qtN 21 1 69, qtN 22 0 4], [((.ofNat 0), [(0, (.negSucc 0)), (1, (.negSucc 0)), (21, (.ofNat 1))]), ((.negSucc 68), [(0, (.ofNat 1)), (1, (.ofNat 1)), (21, (.negSucc 0))]), ((.negSucc 69), [(0, (.ofNat 1)), (1, (.ofNat 1)), (21, (.negSucc 0))]), ((.negSucc 69), [(0, (.ofNat 1)), (1, (.ofNat 1))]), ((.ofNat 0), [(1, (.negSucc 0)), (21, (.ofNat 1))]), ((.negSucc 0), [(1, (.negSucc 0)), (21, (.ofNat 1))])], [], zh143, [(2, [1], []), (1, [1], []), (29, [6], [(sL 21), ((.ofNat 8), []), (sL 18), (sL 19), (sL 22)])]), 0, 0)])
noncomputable def c162_51_e : List Ct := [c163_0, c164_0]
noncomputable def c162_51_p0 : PE := (0, [0, 1], (23, (zt61 []), [((.negSucc 68), [(0, (.ofNat 1)), (1, (.ofNat 1))]), ((.negSucc 69), [(0, (.ofNat 1)), (1, (.ofNat 1))]), ((.ofNat 0), [(0, (.negSucc 0)), (1, (.negSucc 0)), (21, (.ofNat 1))]), ((.negSucc 68), [(0, (.ofNat 1)), (1, (.ofNat 1)), (21, (.negSucc 0))]), ((.negSucc 69), [(0, (.ofNat 1)), (1, (.ofNat 1)), (21, (.negSucc 0))]), ((.ofNat 0), [(1, (.negSucc 0)), (21, (.ofNat 1))]), ((.negSucc 0), [(1, (.negSucc 0)), (21, (.ofNat 1))])], [qvR 0, qvK (.ofNat 5)], zh143, [(2, [1], []), (1, [1], []), (29, [6], [(sL 21), ((.ofNat 8), []), (sL 18), (sL 19), (sL 22)])]), symsL 21 0, some ((.ofNat 139), [(0, (.negSucc 0)), (1, (.negSucc 0)), (21, (.ofNat 1))]), 0, 0)
noncomputable def c162_51_pts : List PE := [c162_51_p0]
set_option maxRecDepth 100000 in
theorem c162_51_k : enCtF c162_51 c162_51_e (pkP (c162_51_pts ++ []) [0]) (none) ((hOr (hWpop 7 6) (hWz 52 6)), noM, 1, 4503599627370624, 21) 3000 = true := by decide +kernel
set_option maxRecDepth 100000 in
theorem c162_51_k0 : ptCtF c162_51 c162_51_e (pkP (c162_51_pts ++ []) [0]) ((hOr (hWpop 7 6) (hWz 52 6)), noM, 1, 4503599627370624, 21) 3000 c162_51_p0 = true := by decide +kernel
set_option maxRecDepth 100000 in
theorem c162_51_v : ValidC PPk c162_51 := ct_ok fpk ⟨(hOr_ok (hWpop_ok 7 6) (hWz_ok 52 6)), noM_ok⟩ (d := 1) (ext := []) (pts := c162_51_pts) (env := c162_51_e) rfl (List.forall_mem_cons.mpr ⟨⟨c163_0_v, Nat.le_of_ble_eq_true rfl⟩, List.forall_mem_cons.mpr ⟨⟨c164_0_v, Nat.le_of_ble_eq_true rfl⟩, fun _ h => (by cases h)⟩⟩) ext_nil (fun q h => (by cases h)) (enF c162_51_k) (List.forall_mem_cons.mpr ⟨⟨_, ptF c162_51_k0⟩, fun _ h => (by cases h)⟩)

noncomputable def c167_99 : Ct := (167, 1, (23, (zt63 []), [], [qvR 0, qvK (.ofNat 4)], zh144, [(2, [1], []), (1, [1], []), (29, [6], [(sL 1), ((.ofNat 8), []), (sL 20), (sL 21), (sL 22)])]),
  [((23, [], [], [], zh145, [(2, [1], []), (1, [1], []), (29, [6], [((.ofNat 1), [(1, (.ofNat 1))]), ((.ofNat 8), []), (sL 20), (sL 21), ((.ofNat 5), [])])]), 0, 0)])
noncomputable def c167_99_e : List Ct := []
noncomputable def c167_99_pts : List PE := []
set_option maxRecDepth 100000 in
theorem c167_99_k : enCtF c167_99 c167_99_e (pkP (c167_99_pts ++ []) []) (none) (noF, (mWst 9), 0, 512, 23) 3000 = true := by decide +kernel
set_option maxRecDepth 100000 in
theorem c167_99_v : ValidC PPk c167_99 := ct_ok fpk ⟨noF_ok, (mWst_ok 9)⟩ (d := 0) (ext := []) (pts := c167_99_pts) (env := c167_99_e) rfl (fun _ h => (by cases h)) ext_nil (fun q h => (by cases h)) (enF c167_99_k) (fun _ h => (by cases h))

noncomputable def c166_73 : Ct := (166, 3, (21, (zt58 []), [((.negSucc 68), [(0, (.ofNat 1)), (1, (.ofNat 1))])], [qvR 0, qvK (.ofNat 4)], zh141, [(2, [1], []), (1, [1], []), (29, [6], [(sL 1), ((.ofNat 8), []), (sL 18), (sL 19), (sL 20)])]),
  [((22, [qtN 1 1 69, qtN 21 2 70], [((.negSucc 69), [(0, (.ofNat 1)), (1, (.ofNat 1))]), ((.negSucc 1), [(1, (.negSucc 0)), (21, (.ofNat 1))]), ((.negSucc 0), [(1, (.negSucc 0)), (21, (.ofNat 1))]), ((.negSucc 68), [(0, (.ofNat 1)), (1, (.ofNat 1)), (21, (.negSucc 0))]), ((.negSucc 67), [(0, (.ofNat 1)), (1, (.ofNat 1)), (21, (.negSucc 0))]), ((.negSucc 0), [(0, (.negSucc 0)), (1, (.negSucc 0)), (21, (.ofNat 1))])], [qvK (.ofNat 1)], zh146, [(2, [1], []), (1, [1], []), (29, [6], [(sL 21), ((.ofNat 8), []), (sL 18), (sL 19), ((.ofNat 5), [])])]), 0, 0)])
noncomputable def c166_73_e : List Ct := [c162_51, c163_0, c167_99]
noncomputable def c166_73_pts : List PE := []
set_option maxRecDepth 100000 in
theorem c166_73_k : enCtF c166_73 c166_73_e (pkP (c166_73_pts ++ []) []) (none) ((hOr (hWpop 22 6) (hWz 42 6)), noM, 0, 4398050705408, 21) 3000 = true := by decide +kernel
set_option maxRecDepth 100000 in
theorem c166_73_v : ValidC PPk c166_73 := ct_ok fpk ⟨(hOr_ok (hWpop_ok 22 6) (hWz_ok 42 6)), noM_ok⟩ (d := 2) (ext := []) (pts := c166_73_pts) (env := c166_73_e) rfl (List.forall_mem_cons.mpr ⟨⟨c162_51_v, Nat.le_of_ble_eq_true rfl⟩, List.forall_mem_cons.mpr ⟨⟨c163_0_v, Nat.le_of_ble_eq_true rfl⟩, List.forall_mem_cons.mpr ⟨⟨c167_99_v, Nat.le_of_ble_eq_true rfl⟩, fun _ h => (by cases h)⟩⟩⟩) ext_nil (fun q h => (by cases h)) (enF c166_73_k) (fun _ h => (by cases h))

noncomputable def c162_52 : Ct := (162, 2, (21, (zt58 []), [((.negSucc 68), [(0, (.ofNat 1)), (1, (.ofNat 1))])], [qvR 0, qvK (.ofNat 4)], zh141, [(2, [1], []), (1, [1], []), (29, [6], [(sL 1), ((.ofNat 8), []), (sL 18), (sL 19), (sL 20)])]),
  [((23, [qtN 21 1 69, qtN 22 0 3], [((.ofNat 0), [(0, (.negSucc 0)), (1, (.negSucc 0)), (21, (.ofNat 1))]), ((.negSucc 68), [(0, (.ofNat 1)), (1, (.ofNat 1)), (21, (.negSucc 0))]), ((.negSucc 69), [(0, (.ofNat 1)), (1, (.ofNat 1)), (21, (.negSucc 0))]), ((.negSucc 69), [(0, (.ofNat 1)), (1, (.ofNat 1))]), ((.ofNat 0), [(1, (.negSucc 0)), (21, (.ofNat 1))]), ((.negSucc 0), [(1, (.negSucc 0)), (21, (.ofNat 1))])], [], zh143, [(2, [1], []), (1, [1], []), (29, [6], [(sL 21), ((.ofNat 8), []), (sL 18), (sL 19), (sL 22)])]), 0, 0)])
noncomputable def c162_52_e : List Ct := [c163_0, c164_0]
noncomputable def c162_52_p0 : PE := (0, [0, 1], (23, (zt61 []), [((.negSucc 68), [(0, (.ofNat 1)), (1, (.ofNat 1))]), ((.negSucc 69), [(0, (.ofNat 1)), (1, (.ofNat 1))]), ((.ofNat 0), [(0, (.negSucc 0)), (1, (.negSucc 0)), (21, (.ofNat 1))]), ((.negSucc 68), [(0, (.ofNat 1)), (1, (.ofNat 1)), (21, (.negSucc 0))]), ((.negSucc 69), [(0, (.ofNat 1)), (1, (.ofNat 1)), (21, (.negSucc 0))]), ((.ofNat 0), [(1, (.negSucc 0)), (21, (.ofNat 1))]), ((.negSucc 0), [(1, (.negSucc 0)), (21, (.ofNat 1))])], [qvR 0, qvK (.ofNat 4)], zh143, [(2, [1], []), (1, [1], []), (29, [6], [(sL 21), ((.ofNat 8), []), (sL 18), (sL 19), (sL 22)])]), symsL 21 0, some ((.ofNat 139), [(0, (.negSucc 0)), (1, (.negSucc 0)), (21, (.ofNat 1))]), 0, 0)
noncomputable def c162_52_pts : List PE := [c162_52_p0]
set_option maxRecDepth 100000 in
theorem c162_52_k : enCtF c162_52 c162_52_e (pkP (c162_52_pts ++ []) [0]) (none) ((hOr (hWpop 7 6) (hWz 52 6)), noM, 1, 4503599627370624, 21) 3000 = true := by decide +kernel
set_option maxRecDepth 100000 in
theorem c162_52_k0 : ptCtF c162_52 c162_52_e (pkP (c162_52_pts ++ []) [0]) ((hOr (hWpop 7 6) (hWz 52 6)), noM, 1, 4503599627370624, 21) 3000 c162_52_p0 = true := by decide +kernel
set_option maxRecDepth 100000 in
theorem c162_52_v : ValidC PPk c162_52 := ct_ok fpk ⟨(hOr_ok (hWpop_ok 7 6) (hWz_ok 52 6)), noM_ok⟩ (d := 1) (ext := []) (pts := c162_52_pts) (env := c162_52_e) rfl (List.forall_mem_cons.mpr ⟨⟨c163_0_v, Nat.le_of_ble_eq_true rfl⟩, List.forall_mem_cons.mpr ⟨⟨c164_0_v, Nat.le_of_ble_eq_true rfl⟩, fun _ h => (by cases h)⟩⟩) ext_nil (fun q h => (by cases h)) (enF c162_52_k) (List.forall_mem_cons.mpr ⟨⟨_, ptF c162_52_k0⟩, fun _ h => (by cases h)⟩)

noncomputable def c167_100 : Ct := (167, 1, (23, (zt64 []), [], [qvR 0, qvK (.ofNat 6)], zh144, [(2, [1], []), (1, [1], []), (29, [6], [(sL 1), ((.ofNat 8), []), (sL 20), (sL 21), (sL 22)])]),
  [((23, [], [], [], zh145, [(2, [1], []), (1, [1], []), (29, [6], [((.ofNat 1), [(1, (.ofNat 1))]), ((.ofNat 8), []), (sL 20), (sL 21), ((.ofNat 4), [])])]), 0, 0)])
noncomputable def c167_100_e : List Ct := []
noncomputable def c167_100_pts : List PE := []
set_option maxRecDepth 100000 in
theorem c167_100_k : enCtF c167_100 c167_100_e (pkP (c167_100_pts ++ []) []) (none) (noF, (mWst 9), 0, 512, 23) 3000 = true := by decide +kernel
set_option maxRecDepth 100000 in
theorem c167_100_v : ValidC PPk c167_100 := ct_ok fpk ⟨noF_ok, (mWst_ok 9)⟩ (d := 0) (ext := []) (pts := c167_100_pts) (env := c167_100_e) rfl (fun _ h => (by cases h)) ext_nil (fun q h => (by cases h)) (enF c167_100_k) (fun _ h => (by cases h))

noncomputable def c166_74 : Ct := (166, 3, (21, (zt58 []), [((.negSucc 68), [(0, (.ofNat 1)), (1, (.ofNat 1))])], [qvR 0, qvK (.ofNat 6)], zh141, [(2, [1], []), (1, [1], []), (29, [6], [(sL 1), ((.ofNat 8), []), (sL 18), (sL 19), (sL 20)])]),
  [((22, [qtN 1 1 69, qtN 21 2 70], [((.negSucc 69), [(0, (.ofNat 1)), (1, (.ofNat 1))]), ((.negSucc 1), [(1, (.negSucc 0)), (21, (.ofNat 1))]), ((.negSucc 0), [(1, (.negSucc 0)), (21, (.ofNat 1))]), ((.negSucc 68), [(0, (.ofNat 1)), (1, (.ofNat 1)), (21, (.negSucc 0))]), ((.negSucc 67), [(0, (.ofNat 1)), (1, (.ofNat 1)), (21, (.negSucc 0))]), ((.negSucc 0), [(0, (.negSucc 0)), (1, (.negSucc 0)), (21, (.ofNat 1))])], [qvK (.ofNat 1)], zh146, [(2, [1], []), (1, [1], []), (29, [6], [(sL 21), ((.ofNat 8), []), (sL 18), (sL 19), ((.ofNat 4), [])])]), 0, 0)])
noncomputable def c166_74_e : List Ct := [c162_52, c163_0, c167_100]
noncomputable def c166_74_pts : List PE := []
set_option maxRecDepth 100000 in
theorem c166_74_k : enCtF c166_74 c166_74_e (pkP (c166_74_pts ++ []) []) (none) ((hOr (hWpop 22 6) (hWz 42 6)), noM, 0, 4398050705408, 21) 3000 = true := by decide +kernel
set_option maxRecDepth 100000 in
theorem c166_74_v : ValidC PPk c166_74 := ct_ok fpk ⟨(hOr_ok (hWpop_ok 22 6) (hWz_ok 42 6)), noM_ok⟩ (d := 2) (ext := []) (pts := c166_74_pts) (env := c166_74_e) rfl (List.forall_mem_cons.mpr ⟨⟨c162_52_v, Nat.le_of_ble_eq_true rfl⟩, List.forall_mem_cons.mpr ⟨⟨c163_0_v, Nat.le_of_ble_eq_true rfl⟩, List.forall_mem_cons.mpr ⟨⟨c167_100_v, Nat.le_of_ble_eq_true rfl⟩, fun _ h => (by cases h)⟩⟩⟩) ext_nil (fun q h => (by cases h)) (enF c166_74_k) (fun _ h => (by cases h))

noncomputable def c167_101 : Ct := (167, 1, (23, (zt64 []), [], [qvR 0, qvK (.ofNat 7)], zh144, [(2, [1], []), (1, [1], []), (29, [6], [(sL 1), ((.ofNat 8), []), (sL 20), (sL 21), (sL 22)])]),
  [((23, [], [], [], zh145, [(2, [1], []), (1, [1], []), (29, [6], [((.ofNat 1), [(1, (.ofNat 1))]), ((.ofNat 8), []), (sL 20), (sL 21), ((.ofNat 4), [])])]), 0, 0)])
noncomputable def c167_101_e : List Ct := []
noncomputable def c167_101_pts : List PE := []
set_option maxRecDepth 100000 in
theorem c167_101_k : enCtF c167_101 c167_101_e (pkP (c167_101_pts ++ []) []) (none) (noF, (mWst 9), 0, 512, 23) 3000 = true := by decide +kernel
set_option maxRecDepth 100000 in
theorem c167_101_v : ValidC PPk c167_101 := ct_ok fpk ⟨noF_ok, (mWst_ok 9)⟩ (d := 0) (ext := []) (pts := c167_101_pts) (env := c167_101_e) rfl (fun _ h => (by cases h)) ext_nil (fun q h => (by cases h)) (enF c167_101_k) (fun _ h => (by cases h))

noncomputable def c166_75 : Ct := (166, 3, (21, (zt58 []), [((.negSucc 68), [(0, (.ofNat 1)), (1, (.ofNat 1))])], [qvR 0, qvK (.ofNat 7)], zh141, [(2, [1], []), (1, [1], []), (29, [6], [(sL 1), ((.ofNat 8), []), (sL 18), (sL 19), (sL 20)])]),
  [((22, [qtN 1 1 69, qtN 21 2 70], [((.negSucc 69), [(0, (.ofNat 1)), (1, (.ofNat 1))]), ((.negSucc 1), [(1, (.negSucc 0)), (21, (.ofNat 1))]), ((.negSucc 0), [(1, (.negSucc 0)), (21, (.ofNat 1))]), ((.negSucc 68), [(0, (.ofNat 1)), (1, (.ofNat 1)), (21, (.negSucc 0))]), ((.negSucc 67), [(0, (.ofNat 1)), (1, (.ofNat 1)), (21, (.negSucc 0))]), ((.negSucc 0), [(0, (.negSucc 0)), (1, (.negSucc 0)), (21, (.ofNat 1))])], [qvK (.ofNat 1)], zh146, [(2, [1], []), (1, [1], []), (29, [6], [(sL 21), ((.ofNat 8), []), (sL 18), (sL 19), ((.ofNat 4), [])])]), 0, 0)])
noncomputable def c166_75_e : List Ct := [c162_52, c163_0, c167_101]
noncomputable def c166_75_pts : List PE := []
set_option maxRecDepth 100000 in
theorem c166_75_k : enCtF c166_75 c166_75_e (pkP (c166_75_pts ++ []) []) (none) ((hOr (hWpop 22 6) (hWz 42 6)), noM, 0, 4398050705408, 21) 3000 = true := by decide +kernel
set_option maxRecDepth 100000 in
theorem c166_75_v : ValidC PPk c166_75 := ct_ok fpk ⟨(hOr_ok (hWpop_ok 22 6) (hWz_ok 42 6)), noM_ok⟩ (d := 2) (ext := []) (pts := c166_75_pts) (env := c166_75_e) rfl (List.forall_mem_cons.mpr ⟨⟨c162_52_v, Nat.le_of_ble_eq_true rfl⟩, List.forall_mem_cons.mpr ⟨⟨c163_0_v, Nat.le_of_ble_eq_true rfl⟩, List.forall_mem_cons.mpr ⟨⟨c167_101_v, Nat.le_of_ble_eq_true rfl⟩, fun _ h => (by cases h)⟩⟩⟩) ext_nil (fun q h => (by cases h)) (enF c166_75_k) (fun _ h => (by cases h))

noncomputable def c167_102 : Ct := (167, 1, (23, (zt63 []), [], [qvR 0, qvK (.ofNat 5)], zh144, [(2, [1], []), (1, [1], []), (29, [6], [(sL 1), ((.ofNat 8), []), (sL 20), (sL 21), (sL 22)])]),
  [((23, [], [], [], zh145, [(2, [1], []), (1, [1], []), (29, [6], [((.ofNat 1), [(1, (.ofNat 1))]), ((.ofNat 8), []), (sL 20), (sL 21), ((.ofNat 5), [])])]), 0, 0)])
noncomputable def c167_102_e : List Ct := []
noncomputable def c167_102_pts : List PE := []
set_option maxRecDepth 100000 in
theorem c167_102_k : enCtF c167_102 c167_102_e (pkP (c167_102_pts ++ []) []) (none) (noF, (mWst 9), 0, 512, 23) 3000 = true := by decide +kernel
set_option maxRecDepth 100000 in
theorem c167_102_v : ValidC PPk c167_102 := ct_ok fpk ⟨noF_ok, (mWst_ok 9)⟩ (d := 0) (ext := []) (pts := c167_102_pts) (env := c167_102_e) rfl (fun _ h => (by cases h)) ext_nil (fun q h => (by cases h)) (enF c167_102_k) (fun _ h => (by cases h))

noncomputable def c166_76 : Ct := (166, 3, (21, (zt58 []), [((.negSucc 68), [(0, (.ofNat 1)), (1, (.ofNat 1))])], [qvR 0, qvK (.ofNat 5)], zh141, [(2, [1], []), (1, [1], []), (29, [6], [(sL 1), ((.ofNat 8), []), (sL 18), (sL 19), (sL 20)])]),
  [((22, [qtN 1 1 69, qtN 21 2 70], [((.negSucc 69), [(0, (.ofNat 1)), (1, (.ofNat 1))]), ((.negSucc 1), [(1, (.negSucc 0)), (21, (.ofNat 1))]), ((.negSucc 0), [(1, (.negSucc 0)), (21, (.ofNat 1))]), ((.negSucc 68), [(0, (.ofNat 1)), (1, (.ofNat 1)), (21, (.negSucc 0))]), ((.negSucc 67), [(0, (.ofNat 1)), (1, (.ofNat 1)), (21, (.negSucc 0))]), ((.negSucc 0), [(0, (.negSucc 0)), (1, (.negSucc 0)), (21, (.ofNat 1))])], [qvK (.ofNat 1)], zh146, [(2, [1], []), (1, [1], []), (29, [6], [(sL 21), ((.ofNat 8), []), (sL 18), (sL 19), ((.ofNat 5), [])])]), 0, 0)])
noncomputable def c166_76_e : List Ct := [c162_51, c163_0, c167_102]
noncomputable def c166_76_pts : List PE := []
set_option maxRecDepth 100000 in
theorem c166_76_k : enCtF c166_76 c166_76_e (pkP (c166_76_pts ++ []) []) (none) ((hOr (hWpop 22 6) (hWz 42 6)), noM, 0, 4398050705408, 21) 3000 = true := by decide +kernel
set_option maxRecDepth 100000 in
theorem c166_76_v : ValidC PPk c166_76 := ct_ok fpk ⟨(hOr_ok (hWpop_ok 22 6) (hWz_ok 42 6)), noM_ok⟩ (d := 2) (ext := []) (pts := c166_76_pts) (env := c166_76_e) rfl (List.forall_mem_cons.mpr ⟨⟨c162_51_v, Nat.le_of_ble_eq_true rfl⟩, List.forall_mem_cons.mpr ⟨⟨c163_0_v, Nat.le_of_ble_eq_true rfl⟩, List.forall_mem_cons.mpr ⟨⟨c167_102_v, Nat.le_of_ble_eq_true rfl⟩, fun _ h => (by cases h)⟩⟩⟩) ext_nil (fun q h => (by cases h)) (enF c166_76_k) (fun _ h => (by cases h))

noncomputable def c162_53 : Ct := (162, 2, (21, (zt58 []), [((.negSucc 68), [(0, (.ofNat 1)), (1, (.ofNat 1))])], [qvR 0, qvK (.ofNat 3)], zh141, [(2, [1], []), (1, [1], []), (29, [6], [(sL 1), ((.ofNat 8), []), (sL 18), (sL 19), (sL 20)])]),
  [((23, [qtN 21 1 69, qtN 22 0 2], [((.ofNat 0), [(0, (.negSucc 0)), (1, (.negSucc 0)), (21, (.ofNat 1))]), ((.negSucc 68), [(0, (.ofNat 1)), (1, (.ofNat 1)), (21, (.negSucc 0))]), ((.negSucc 69), [(0, (.ofNat 1)), (1, (.ofNat 1)), (21, (.negSucc 0))]), ((.negSucc 69), [(0, (.ofNat 1)), (1, (.ofNat 1))]), ((.ofNat 0), [(1, (.negSucc 0)), (21, (.ofNat 1))]), ((.negSucc 0), [(1, (.negSucc 0)), (21, (.ofNat 1))])], [], zh143, [(2, [1], []), (1, [1], []), (29, [6], [(sL 21), ((.ofNat 8), []), (sL 18), ((.ofNat 0), []), (sL 22)])]), 0, 0)])
noncomputable def c162_53_e : List Ct := [c163_0, c164_0]
noncomputable def c162_53_p0 : PE := (0, [0, 1], (24, (zt59 []), [((.negSucc 68), [(0, (.ofNat 1)), (1, (.ofNat 1))]), ((.negSucc 69), [(0, (.ofNat 1)), (1, (.ofNat 1))]), ((.ofNat 0), [(0, (.negSucc 0)), (1, (.negSucc 0)), (21, (.ofNat 1))]), ((.negSucc 68), [(0, (.ofNat 1)), (1, (.ofNat 1)), (21, (.negSucc 0))]), ((.negSucc 69), [(0, (.ofNat 1)), (1, (.ofNat 1)), (21, (.negSucc 0))]), ((.ofNat 0), [(1, (.negSucc 0)), (21, (.ofNat 1))]), ((.negSucc 0), [(1, (.negSucc 0)), (21, (.ofNat 1))])], [qvR 0, qvK (.ofNat 3)], zh143, [(2, [1], []), (1, [1], []), (29, [6], [(sL 21), ((.ofNat 8), []), (sL 18), (sL 22), (sL 23)])]), symsL 21 0, some ((.ofNat 139), [(0, (.negSucc 0)), (1, (.negSucc 0)), (21, (.ofNat 1))]), 0, 0)
noncomputable def c162_53_pts : List PE := [c162_53_p0]
set_option maxRecDepth 100000 in
theorem c162_53_k : enCtF c162_53 c162_53_e (pkP (c162_53_pts ++ []) [0]) (none) ((hOr (hWpop 7 6) (hWz 52 6)), noM, 1, 4503599627370624, 21) 3000 = true := by decide +kernel
set_option maxRecDepth 100000 in
theorem c162_53_k0 : ptCtF c162_53 c162_53_e (pkP (c162_53_pts ++ []) [0]) ((hOr (hWpop 7 6) (hWz 52 6)), noM, 1, 4503599627370624, 21) 3000 c162_53_p0 = true := by decide +kernel
set_option maxRecDepth 100000 in
theorem c162_53_v : ValidC PPk c162_53 := ct_ok fpk ⟨(hOr_ok (hWpop_ok 7 6) (hWz_ok 52 6)), noM_ok⟩ (d := 1) (ext := []) (pts := c162_53_pts) (env := c162_53_e) rfl (List.forall_mem_cons.mpr ⟨⟨c163_0_v, Nat.le_of_ble_eq_true rfl⟩, List.forall_mem_cons.mpr ⟨⟨c164_0_v, Nat.le_of_ble_eq_true rfl⟩, fun _ h => (by cases h)⟩⟩) ext_nil (fun q h => (by cases h)) (enF c162_53_k) (List.forall_mem_cons.mpr ⟨⟨_, ptF c162_53_k0⟩, fun _ h => (by cases h)⟩)

noncomputable def c167_103 : Ct := (167, 1, (23, (zt65 []), [], [qvR 0, qvK (.ofNat 8)], zh144, [(2, [1], []), (1, [1], []), (29, [6], [(sL 1), ((.ofNat 8), []), (sL 20), (sL 21), (sL 22)])]),
  [((23, [], [], [], zh145, [(2, [1], []), (1, [1], []), (29, [6], [((.ofNat 1), [(1, (.ofNat 1))]), ((.ofNat 8), []), (sL 20), ((.ofNat 1), []), ((.ofNat 3), [])])]), 0, 0)])
noncomputable def c167_103_e : List Ct := []
noncomputable def c167_103_pts : List PE := []
set_option maxRecDepth 100000 in
theorem c167_103_k : enCtF c167_103 c167_103_e (pkP (c167_103_pts ++ []) []) (none) (noF, (mWst 9), 0, 512, 23) 3000 = true := by decide +kernel
set_option maxRecDepth 100000 in
theorem c167_103_v : ValidC PPk c167_103 := ct_ok fpk ⟨noF_ok, (mWst_ok 9)⟩ (d := 0) (ext := []) (pts := c167_103_pts) (env := c167_103_e) rfl (fun _ h => (by cases h)) ext_nil (fun q h => (by cases h)) (enF c167_103_k) (fun _ h => (by cases h))

noncomputable def c166_77 : Ct := (166, 3, (21, (zt58 []), [((.negSucc 68), [(0, (.ofNat 1)), (1, (.ofNat 1))])], [qvR 0, qvK (.ofNat 8)], zh141, [(2, [1], []), (1, [1], []), (29, [6], [(sL 1), ((.ofNat 8), []), (sL 18), (sL 19), (sL 20)])]),
  [((22, [qtN 1 1 69, qtN 19 0 0, qtN 21 2 70], [((.negSucc 69), [(0, (.ofNat 1)), (1, (.ofNat 1))]), ((.negSucc 0), [(0, (.negSucc 0)), (1, (.negSucc 0)), (21, (.ofNat 1))]), ((.negSucc 67), [(0, (.ofNat 1)), (1, (.ofNat 1)), (21, (.negSucc 0))]), ((.negSucc 68), [(0, (.ofNat 1)), (1, (.ofNat 1)), (21, (.negSucc 0))])], [qvK (.ofNat 1)], zh146, [(2, [1], []), (1, [1], []), (29, [6], [(sL 21), ((.ofNat 8), []), (sL 18), ((.ofNat 1), []), ((.ofNat 3), [])])]), 0, 0),
   ((22, [qtN 1 1 69, qtN 19 1 1, qtN 21 1 69], [((.negSucc 69), [(0, (.ofNat 1)), (1, (.ofNat 1))]), ((.negSucc 0), [(1, (.negSucc 0)), (21, (.ofNat 1))]), ((.ofNat 0), [(1, (.negSucc 0)), (21, (.ofNat 1))]), ((.negSucc 69), [(0, (.ofNat 1)), (1, (.ofNat 1)), (21, (.negSucc 0))]), ((.negSucc 68), [(0, (.ofNat 1)), (1, (.ofNat 1)), (21, (.negSucc 0))]), ((.ofNat 0), [(0, (.negSucc 0)), (1, (.negSucc 0)), (21, (.ofNat 1))])], [qvK (.ofNat 0)], zh143, [(2, [1], []), (1, [1], []), (29, [6], [(sL 21), ((.ofNat 8), []), (sL 18), (sL 19), ((.ofNat 3), [])])]), 0, 0)])
noncomputable def c166_77_e : List Ct := [c162_52, c162_53, c163_0, c167_103]
noncomputable def c166_77_pts : List PE := []
set_option maxRecDepth 100000 in
theorem c166_77_k : enCtF c166_77 c166_77_e (pkP (c166_77_pts ++ []) []) (none) ((hOr (hWpop 22 6) (hWz 42 6)), noM, 0, 4398050705408, 21) 3000 = true := by decide +kernel
set_option maxRecDepth 100000 in
theorem c166_77_v : ValidC PPk c166_77 := ct_ok fpk ⟨(hOr_ok (hWpop_ok 22 6) (hWz_ok 42 6)), noM_ok⟩ (d := 2) (ext := []) (pts := c166_77_pts) (env := c166_77_e) rfl (List.forall_mem_cons.mpr ⟨⟨c162_52_v, Nat.le_of_ble_eq_true rfl⟩, List.forall_mem_cons.mpr ⟨⟨c162_53_v, Nat.le_of_ble_eq_true rfl⟩, List.forall_mem_cons.mpr ⟨⟨c163_0_v, Nat.le_of_ble_eq_true rfl⟩, List.forall_mem_cons.mpr ⟨⟨c167_103_v, Nat.le_of_ble_eq_true rfl⟩, fun _ h => (by cases h)⟩⟩⟩⟩) ext_nil (fun q h => (by cases h)) (enF c166_77_k) (fun _ h => (by cases h))

noncomputable def c167_104 : Ct := (167, 1, (23, (zt65 []), [], [qvR 0, qvK (.ofNat 10)], zh144, [(2, [1], []), (1, [1], []), (29, [6], [(sL 1), ((.ofNat 8), []), (sL 20), (sL 21), (sL 22)])]),
  [((23, [], [], [], zh145, [(2, [1], []), (1, [1], []), (29, [6], [((.ofNat 1), [(1, (.ofNat 1))]), ((.ofNat 8), []), (sL 20), ((.ofNat 1), []), ((.ofNat 3), [])])]), 0, 0)])
noncomputable def c167_104_e : List Ct := []
noncomputable def c167_104_pts : List PE := []
set_option maxRecDepth 100000 in
theorem c167_104_k : enCtF c167_104 c167_104_e (pkP (c167_104_pts ++ []) []) (none) (noF, (mWst 9), 0, 512, 23) 3000 = true := by decide +kernel
set_option maxRecDepth 100000 in
theorem c167_104_v : ValidC PPk c167_104 := ct_ok fpk ⟨noF_ok, (mWst_ok 9)⟩ (d := 0) (ext := []) (pts := c167_104_pts) (env := c167_104_e) rfl (fun _ h => (by cases h)) ext_nil (fun q h => (by cases h)) (enF c167_104_k) (fun _ h => (by cases h))

noncomputable def c166_78 : Ct := (166, 3, (21, (zt58 []), [((.negSucc 68), [(0, (.ofNat 1)), (1, (.ofNat 1))])], [qvR 0, qvK (.ofNat 10)], zh141, [(2, [1], []), (1, [1], []), (29, [6], [(sL 1), ((.ofNat 8), []), (sL 18), (sL 19), (sL 20)])]),
  [((22, [qtN 1 1 69, qtN 19 0 0, qtN 21 2 70], [((.negSucc 69), [(0, (.ofNat 1)), (1, (.ofNat 1))]), ((.negSucc 0), [(0, (.negSucc 0)), (1, (.negSucc 0)), (21, (.ofNat 1))]), ((.negSucc 67), [(0, (.ofNat 1)), (1, (.ofNat 1)), (21, (.negSucc 0))]), ((.negSucc 68), [(0, (.ofNat 1)), (1, (.ofNat 1)), (21, (.negSucc 0))])], [qvK (.ofNat 1)], zh146, [(2, [1], []), (1, [1], []), (29, [6], [(sL 21), ((.ofNat 8), []), (sL 18), ((.ofNat 1), []), ((.ofNat 3), [])])]), 0, 0),
   ((22, [qtN 1 1 69, qtN 19 1 1, qtN 21 1 69], [((.negSucc 69), [(0, (.ofNat 1)), (1, (.ofNat 1))]), ((.negSucc 0), [(1, (.negSucc 0)), (21, (.ofNat 1))]), ((.ofNat 0), [(1, (.negSucc 0)), (21, (.ofNat 1))]), ((.negSucc 69), [(0, (.ofNat 1)), (1, (.ofNat 1)), (21, (.negSucc 0))]), ((.negSucc 68), [(0, (.ofNat 1)), (1, (.ofNat 1)), (21, (.negSucc 0))]), ((.ofNat 0), [(0, (.negSucc 0)), (1, (.negSucc 0)), (21, (.ofNat 1))])], [qvK (.ofNat 0)], zh143, [(2, [1], []), (1, [1], []), (29, [6], [(sL 21), ((.ofNat 8), []), (sL 18), (sL 19), ((.ofNat 3), [])])]), 0, 0)])
noncomputable def c166_78_e : List Ct := [c162_52, c162_53, c163_0, c167_104]
noncomputable def c166_78_pts : List PE := []
set_option maxRecDepth 100000 in
theorem c166_78_k : enCtF c166_78 c166_78_e (pkP (c166_78_pts ++ []) []) (none) ((hOr (hWpop 22 6) (hWz 42 6)), noM, 0, 4398050705408, 21) 3000 = true := by decide +kernel
set_option maxRecDepth 100000 in
theorem c166_78_v : ValidC PPk c166_78 := ct_ok fpk ⟨(hOr_ok (hWpop_ok 22 6) (hWz_ok 42 6)), noM_ok⟩ (d := 2) (ext := []) (pts := c166_78_pts) (env := c166_78_e) rfl (List.forall_mem_cons.mpr ⟨⟨c162_52_v, Nat.le_of_ble_eq_true rfl⟩, List.forall_mem_cons.mpr ⟨⟨c162_53_v, Nat.le_of_ble_eq_true rfl⟩, List.forall_mem_cons.mpr ⟨⟨c163_0_v, Nat.le_of_ble_eq_true rfl⟩, List.forall_mem_cons.mpr ⟨⟨c167_104_v, Nat.le_of_ble_eq_true rfl⟩, fun _ h => (by cases h)⟩⟩⟩⟩) ext_nil (fun q h => (by cases h)) (enF c166_78_k) (fun _ h => (by cases h))

noncomputable def c167_105 : Ct := (167, 1, (23, (zt65 []), [], [qvR 0, qvK (.ofNat 9)], zh144, [(2, [1], []), (1, [1], []), (29, [6], [(sL 1), ((.ofNat 8), []), (sL 20), (sL 21), (sL 22)])]),
  [((23, [], [], [], zh145, [(2, [1], []), (1, [1], []), (29, [6], [((.ofNat 1), [(1, (.ofNat 1))]), ((.ofNat 8), []), (sL 20), ((.ofNat 1), []), ((.ofNat 3), [])])]), 0, 0)])
noncomputable def c167_105_e : List Ct := []
noncomputable def c167_105_pts : List PE := []
set_option maxRecDepth 100000 in
theorem c167_105_k : enCtF c167_105 c167_105_e (pkP (c167_105_pts ++ []) []) (none) (noF, (mWst 9), 0, 512, 23) 3000 = true := by decide +kernel
set_option maxRecDepth 100000 in
theorem c167_105_v : ValidC PPk c167_105 := ct_ok fpk ⟨noF_ok, (mWst_ok 9)⟩ (d := 0) (ext := []) (pts := c167_105_pts) (env := c167_105_e) rfl (fun _ h => (by cases h)) ext_nil (fun q h => (by cases h)) (enF c167_105_k) (fun _ h => (by cases h))

noncomputable def c166_79 : Ct := (166, 3, (21, (zt58 []), [((.negSucc 68), [(0, (.ofNat 1)), (1, (.ofNat 1))])], [qvR 0, qvK (.ofNat 9)], zh141, [(2, [1], []), (1, [1], []), (29, [6], [(sL 1), ((.ofNat 8), []), (sL 18), (sL 19), (sL 20)])]),
  [((22, [qtN 1 1 69, qtN 19 0 0, qtN 21 2 70], [((.negSucc 69), [(0, (.ofNat 1)), (1, (.ofNat 1))]), ((.negSucc 0), [(0, (.negSucc 0)), (1, (.negSucc 0)), (21, (.ofNat 1))]), ((.negSucc 67), [(0, (.ofNat 1)), (1, (.ofNat 1)), (21, (.negSucc 0))]), ((.negSucc 68), [(0, (.ofNat 1)), (1, (.ofNat 1)), (21, (.negSucc 0))])], [qvK (.ofNat 1)], zh146, [(2, [1], []), (1, [1], []), (29, [6], [(sL 21), ((.ofNat 8), []), (sL 18), ((.ofNat 1), []), ((.ofNat 3), [])])]), 0, 0),
   ((22, [qtN 1 1 69, qtN 19 1 1, qtN 21 1 69], [((.negSucc 69), [(0, (.ofNat 1)), (1, (.ofNat 1))]), ((.negSucc 0), [(1, (.negSucc 0)), (21, (.ofNat 1))]), ((.ofNat 0), [(1, (.negSucc 0)), (21, (.ofNat 1))]), ((.negSucc 69), [(0, (.ofNat 1)), (1, (.ofNat 1)), (21, (.negSucc 0))]), ((.negSucc 68), [(0, (.ofNat 1)), (1, (.ofNat 1)), (21, (.negSucc 0))]), ((.ofNat 0), [(0, (.negSucc 0)), (1, (.negSucc 0)), (21, (.ofNat 1))])], [qvK (.ofNat 0)], zh143, [(2, [1], []), (1, [1], []), (29, [6], [(sL 21), ((.ofNat 8), []), (sL 18), (sL 19), ((.ofNat 3), [])])]), 0, 0)])
noncomputable def c166_79_e : List Ct := [c162_52, c162_53, c163_0, c167_105]
noncomputable def c166_79_pts : List PE := []
set_option maxRecDepth 100000 in
theorem c166_79_k : enCtF c166_79 c166_79_e (pkP (c166_79_pts ++ []) []) (none) ((hOr (hWpop 22 6) (hWz 42 6)), noM, 0, 4398050705408, 21) 3000 = true := by decide +kernel
set_option maxRecDepth 100000 in
theorem c166_79_v : ValidC PPk c166_79 := ct_ok fpk ⟨(hOr_ok (hWpop_ok 22 6) (hWz_ok 42 6)), noM_ok⟩ (d := 2) (ext := []) (pts := c166_79_pts) (env := c166_79_e) rfl (List.forall_mem_cons.mpr ⟨⟨c162_52_v, Nat.le_of_ble_eq_true rfl⟩, List.forall_mem_cons.mpr ⟨⟨c162_53_v, Nat.le_of_ble_eq_true rfl⟩, List.forall_mem_cons.mpr ⟨⟨c163_0_v, Nat.le_of_ble_eq_true rfl⟩, List.forall_mem_cons.mpr ⟨⟨c167_105_v, Nat.le_of_ble_eq_true rfl⟩, fun _ h => (by cases h)⟩⟩⟩⟩) ext_nil (fun q h => (by cases h)) (enF c166_79_k) (fun _ h => (by cases h))

noncomputable def c167_106 : Ct := (167, 1, (23, (zt66 []), [], [qvR 0, qvK (.ofNat 12)], zh144, [(2, [1], []), (1, [1], []), (29, [6], [(sL 1), ((.ofNat 8), []), (sL 20), (sL 21), (sL 22)])]),
  [((23, [], [], [], zh145, [(2, [1], []), (1, [1], []), (29, [6], [((.ofNat 1), [(1, (.ofNat 1))]), ((.ofNat 8), []), (sL 20), (sL 21), ((.ofNat 1), [])])]), 0, 0)])
noncomputable def c167_106_e : List Ct := []
noncomputable def c167_106_pts : List PE := []
set_option maxRecDepth 100000 in
theorem c167_106_k : enCtF c167_106 c167_106_e (pkP (c167_106_pts ++ []) []) (none) (noF, (mWst 9), 0, 512, 23) 3000 = true := by decide +kernel
set_option maxRecDepth 100000 in
theorem c167_106_v : ValidC PPk c167_106 := ct_ok fpk ⟨noF_ok, (mWst_ok 9)⟩ (d := 0) (ext := []) (pts := c167_106_pts) (env := c167_106_e) rfl (fun _ h => (by cases h)) ext_nil (fun q h => (by cases h)) (enF c167_106_k) (fun _ h => (by cases h))

noncomputable def c166_80 : Ct := (166, 3, (21, (zt58 []), [((.negSucc 68), [(0, (.ofNat 1)), (1, (.ofNat 1))])], [qvR 0, qvK (.ofNat 12)], zh141, [(2, [1], []), (1, [1], []), (29, [6], [(sL 1), ((.ofNat 8), []), (sL 18), (sL 19), (sL 20)])]),
  [((22, [qtN 1 1 69, qtN 21 2 70], [((.negSucc 69), [(0, (.ofNat 1)), (1, (.ofNat 1))]), ((.negSucc 1), [(1, (.negSucc 0)), (21, (.ofNat 1))]), ((.negSucc 0), [(1, (.negSucc 0)), (21, (.ofNat 1))]), ((.negSucc 68), [(0, (.ofNat 1)), (1, (.ofNat 1)), (21, (.negSucc 0))]), ((.negSucc 67), [(0, (.ofNat 1)), (1, (.ofNat 1)), (21, (.negSucc 0))]), ((.negSucc 0), [(0, (.negSucc 0)), (1, (.negSucc 0)), (21, (.ofNat 1))])], [qvK (.ofNat 1)], zh146, [(2, [1], []), (1, [1], []), (29, [6], [(sL 21), ((.ofNat 8), []), (sL 18), ((.ofNat 0), []), ((.ofNat 1), [])])]), 0, 0)])
noncomputable def c166_80_e : List Ct := [c162_16, c163_0, c167_106]
noncomputable def c166_80_pts : List PE := []
set_option maxRecDepth 100000 in
theorem c166_80_k : enCtF c166_80 c166_80_e (pkP (c166_80_pts ++ []) []) (none) ((hOr (hWpop 22 6) (hWz 42 6)), noM, 0, 4398050705408, 21) 3000 = true := by decide +kernel
set_option maxRecDepth 100000 in
theorem c166_80_v : ValidC PPk c166_80 := ct_ok fpk ⟨(hOr_ok (hWpop_ok 22 6) (hWz_ok 42 6)), noM_ok⟩ (d := 2) (ext := []) (pts := c166_80_pts) (env := c166_80_e) rfl (List.forall_mem_cons.mpr ⟨⟨c162_16_v, Nat.le_of_ble_eq_true rfl⟩, List.forall_mem_cons.mpr ⟨⟨c163_0_v, Nat.le_of_ble_eq_true rfl⟩, List.forall_mem_cons.mpr ⟨⟨c167_106_v, Nat.le_of_ble_eq_true rfl⟩, fun _ h => (by cases h)⟩⟩⟩) ext_nil (fun q h => (by cases h)) (enF c166_80_k) (fun _ h => (by cases h))
