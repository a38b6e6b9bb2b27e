/-! ===== contracts, written by wip/vse3/emitlaw.py ===== -/
noncomputable def c38_17 : Ct := (38, 69, (5, [qtN 0 0 60, qtN 1 0 60, qtN 2 0 60], [((.ofNat 0), [(0, (.negSucc 0)), (1, (.ofNat 1))])], [qvR 0, qvK (.ofNat 0)], zh119, [(10, [1], [((.ofNat 0), []), (sL 0), (sL 3), ((.ofNat 0), []), ((.ofNat 0), [])]), (28, [], [(sL 0), (sL 3), (sL 1), ((.ofNat 0), []), ((.ofNat 0), []), (sL 4), ((.ofNat 1), [])])]),
  [((14, (zt55 []), [((.ofNat 0), [(0, (.negSucc 0)), (6, (.ofNat 1))]), ((.ofNat 0), [(1, (.ofNat 1)), (6, (.negSucc 0))])], [], zh129, [(10, [1], [((.ofNat 0), []), (sL 0), (sL 3), ((.ofNat 0), []), ((.ofNat 0), [])]), (28, [], [(sL 0), (sL 3), (sL 5)]), (28, [], [(sL 0), (sL 3), (sL 8), (sL 9), (sL 10), (sL 11), (sL 12)]), (29, [], [(sL 0), (sL 3), (sL 8), (sL 13)])]), 0, 0),
   ((8, [qtN 0 1 60, qtN 1 0 59, qtN 5 1 60, qtN 6 1 60, qtN 7 1 12], [((.ofNat 1), [(0, (.negSucc 0)), (1, (.ofNat 1))]), ((.ofNat 0), [(0, (.negSucc 0)), (5, (.ofNat 1))]), ((.ofNat 0), [(1, (.ofNat 1)), (5, (.negSucc 0))]), ((.ofNat 1), [(1, (.ofNat 1)), (5, (.negSucc 0))])], [], zh120, [(29, [], [(sL 0), (sL 3), (sL 5), (sL 7)]), (10, [1], [((.ofNat 0), []), (sL 0), (sL 3), ((.ofNat 0), []), ((.ofNat 0), [])]), (28, [], [(sL 0), (sL 3), (sL 5), ((.ofNat 1), []), ((.ofNat 0), []), (sL 4), ((.ofNat 1), [])])]), 0, 0),
   ((8, [qtN 0 1 60, qtN 1 0 59, qtN 5 1 59, qtN 6 1 60, qtN 7 60 62], [((.ofNat 1), [(0, (.negSucc 0)), (1, (.ofNat 1))]), ((.ofNat 0), [(0, (.negSucc 0)), (5, (.ofNat 1))]), ((.ofNat 1), [(0, (.negSucc 0)), (5, (.ofNat 1))]), ((.ofNat 0), [(1, (.ofNat 1)), (5, (.negSucc 0))]), ((.ofNat 1), [(1, (.ofNat 1)), (5, (.negSucc 0))])], [], zh120, [(29, [], [(sL 0), (sL 3), (sL 5), ((.ofNat 10), [])]), (28, [], [(sL 0), (sL 3), (sL 5), (sL 7)]), (10, [1], [((.ofNat 0), []), (sL 0), (sL 3), ((.ofNat 0), []), ((.ofNat 0), [])]), (28, [], [(sL 0), (sL 3), (sL 5), ((.ofNat 1), []), ((.ofNat 0), []), (sL 4), ((.ofNat 1), [])])]), 0, 0)])
noncomputable def c38_17_e : List Ct := [c39_17, c40_104, c40_103, c40_9, c44_0]
noncomputable def c38_17_p0 : PE := (7, [0, 1, 2], (14, (zt56 []), [((.ofNat 0), [(0, (.negSucc 0)), (1, (.ofNat 1))]), ((.ofNat 0), [(0, (.negSucc 0)), (6, (.ofNat 1))]), ((.ofNat 0), [(1, (.ofNat 1)), (6, (.negSucc 0))])], [qvR 0, qvK (.ofNat 0), qvK (.ofNat 0)], zh129, [(28, [], [(sL 0), (sL 3), (sL 5)]), (10, [1], [((.ofNat 0), []), (sL 0), (sL 3), ((.ofNat 0), []), ((.ofNat 0), [])]), (28, [], [(sL 0), (sL 3), (sL 8), (sL 9), (sL 10), (sL 11), (sL 12)]), (29, [], [(sL 0), (sL 3), (sL 8), (sL 13)])]), symsL 5 0, some ((.ofNat 119), []), 0, 0)
noncomputable def c38_17_p1 : PE := (7, [0, 1, 2, 3], (16, [qtN 0 1 60, qtN 1 0 59, qtN 2 0 60, qtN 5 1 59, qtN 6 42 47, qtN 7 1 910, qtN 8 2 60, qtN 9 1 60, qtN 10 0 60, qtN 11 0 1, qtN 12 0 8, qtN 14 0 1, qtN 15 1 13], [((.ofNat 0), [(0, (.negSucc 0)), (1, (.ofNat 1))]), ((.ofNat 1), [(0, (.negSucc 0)), (1, (.ofNat 1))]), ((.ofNat 2), [(0, (.negSucc 0)), (1, (.ofNat 1))]), ((.ofNat 0), [(0, (.negSucc 0)), (8, (.ofNat 1))]), ((.ofNat 0), [(1, (.ofNat 1)), (8, (.negSucc 0))]), ((.ofNat 1), [(1, (.ofNat 1)), (8, (.negSucc 0))]), ((.ofNat 1), [(5, (.ofNat 1)), (8, (.negSucc 0))]), ((.ofNat 0), [(5, (.ofNat 1)), (8, (.negSucc 0))])], [qvR 0, qvK (.ofNat 0), qvS 5, qvS 6], zh134, [(28, [], [(sL 0), (sL 3), (sL 7)]), (10, [1], [((.ofNat 0), []), (sL 0), (sL 3), ((.ofNat 0), []), ((.ofNat 0), [])]), (28, [], [(sL 0), (sL 3), (sL 10), (sL 11), (sL 12), (sL 13), (sL 14)]), (29, [], [(sL 0), (sL 3), (sL 10), (sL 15)])]), symsL 5 0, some ((.ofNat 119), [(5, (.negSucc 0))]), 0, 0)
noncomputable def c38_17_p2 : PE := (7, [0, 1, 2], (7, [qtN 0 1 60, qtN 1 0 59, qtN 2 0 60, qtN 5 1 60, qtN 6 1 60], [((.ofNat 1), [(0, (.negSucc 0)), (1, (.ofNat 1))]), ((.ofNat 0), [(0, (.negSucc 0)), (1, (.ofNat 1))]), ((.ofNat 0), [(0, (.negSucc 0)), (5, (.ofNat 1))]), ((.ofNat 0), [(1, (.ofNat 1)), (5, (.negSucc 0))]), ((.ofNat 1), [(1, (.ofNat 1)), (5, (.negSucc 0))])], [qvR 0, qvK (.ofNat 0), qvK (.ofNat 0)], zh120, [(28, [], [(sL 0), (sL 3), (sL 5), ((.ofNat 1), []), ((.ofNat 0), []), (sL 4), ((.ofNat 1), [])]), (10, [1], [((.ofNat 0), []), (sL 0), (sL 3), ((.ofNat 0), []), ((.ofNat 0), [])])]), symsL 5 0, some ((.ofNat 119), []), 0, 0)
noncomputable def c38_17_p3 : PE := (7, [0, 1, 2, 3], (9, [qtN 0 3 60, qtN 1 0 59, qtN 2 0 60, qtN 5 1 59, qtN 6 42 47, qtN 7 3 60, qtN 8 1 60], [((.ofNat 2), [(0, (.negSucc 0)), (1, (.ofNat 1))]), ((.ofNat 0), [(0, (.negSucc 0)), (1, (.ofNat 1))]), ((.ofNat 1), [(0, (.negSucc 0)), (1, (.ofNat 1))]), ((.ofNat 3), [(0, (.negSucc 0)), (1, (.ofNat 1))]), ((.ofNat 0), [(0, (.negSucc 0)), (7, (.ofNat 1))]), ((.ofNat 0), [(1, (.ofNat 1)), (7, (.negSucc 0))]), ((.ofNat 1), [(1, (.ofNat 1)), (7, (.negSucc 0))]), ((.ofNat 1), [(5, (.ofNat 1)), (7, (.negSucc 0))]), ((.ofNat 0), [(5, (.ofNat 1)), (7, (.negSucc 0))])], [qvR 0, qvK (.ofNat 0), qvS 5, qvS 6], zh135, [(28, [], [(sL 0), (sL 3), (sL 7), ((.ofNat 1), []), ((.ofNat 0), []), (sL 4), ((.ofNat 1), [])]), (10, [1], [((.ofNat 0), []), (sL 0), (sL 3), ((.ofNat 0), []), ((.ofNat 0), [])])]), symsL 5 0, some ((.ofNat 119), [(5, (.negSucc 0))]), 0, 0)
noncomputable def c38_17_p4 : PE := (7, [0, 1, 2], (8, (zt19 []), [((.ofNat 1), [(0, (.negSucc 0)), (1, (.ofNat 1))]), ((.ofNat 2), [(0, (.negSucc 0)), (1, (.ofNat 1))]), ((.ofNat 0), [(0, (.negSucc 0)), (1, (.ofNat 1))]), ((.ofNat 0), [(0, (.negSucc 0)), (5, (.ofNat 1))]), ((.ofNat 1), [(0, (.negSucc 0)), (5, (.ofNat 1))]), ((.ofNat 0), [(1, (.ofNat 1)), (5, (.negSucc 0))]), ((.ofNat 1), [(1, (.ofNat 1)), (5, (.negSucc 0))])], [qvR 0, qvK (.ofNat 0), qvK (.ofNat 0)], zh120, [(28, [], [(sL 0), (sL 3), (sL 5), ((.ofNat 1), []), ((.ofNat 0), []), (sL 4), ((.ofNat 1), [])]), (29, [], [(sL 0), (sL 3), (sL 5), ((.ofNat 10), [])]), (28, [], [(sL 0), (sL 3), (sL 5), (sL 7)]), (10, [1], [((.ofNat 0), []), (sL 0), (sL 3), ((.ofNat 0), []), ((.ofNat 0), [])])]), symsL 5 0, some ((.ofNat 119), []), 0, 0)
noncomputable def c38_17_p5 : PE := (7, [0, 1, 2, 3], (10, [qtN 0 4 60, qtN 1 0 59, qtN 2 0 60, qtN 5 1 59, qtN 6 42 47, qtN 7 3 59, qtN 8 1 60, qtN 9 60 62], [((.ofNat 2), [(0, (.negSucc 0)), (1, (.ofNat 1))]), ((.ofNat 3), [(0, (.negSucc 0)), (1, (.ofNat 1))]), ((.ofNat 0), [(0, (.negSucc 0)), (1, (.ofNat 1))]), ((.ofNat 1), [(0, (.negSucc 0)), (1, (.ofNat 1))]), ((.ofNat 4), [(0, (.negSucc 0)), (1, (.ofNat 1))]), ((.ofNat 0), [(0, (.negSucc 0)), (7, (.ofNat 1))]), ((.ofNat 1), [(0, (.negSucc 0)), (7, (.ofNat 1))]), ((.ofNat 0), [(1, (.ofNat 1)), (7, (.negSucc 0))]), ((.ofNat 1), [(1, (.ofNat 1)), (7, (.negSucc 0))]), ((.ofNat 1), [(5, (.ofNat 1)), (7, (.negSucc 0))]), ((.ofNat 0), [(5, (.ofNat 1)), (7, (.negSucc 0))])], [qvR 0, qvK (.ofNat 0), qvS 5, qvS 6], zh135, [(28, [], [(sL 0), (sL 3), (sL 7), ((.ofNat 1), []), ((.ofNat 0), []), (sL 4), ((.ofNat 1), [])]), (29, [], [(sL 0), (sL 3), (sL 7), ((.ofNat 10), [])]), (28, [], [(sL 0), (sL 3), (sL 7), (sL 9)]), (10, [1], [((.ofNat 0), []), (sL 0), (sL 3), ((.ofNat 0), []), ((.ofNat 0), [])])]), symsL 5 0, some ((.ofNat 119), [(5, (.negSucc 0))]), 0, 0)
noncomputable def c38_17_pts : List PE := [c38_17_p0, c38_17_p1, c38_17_p2, c38_17_p3, c38_17_p4, c38_17_p5]
set_option maxRecDepth 100000 in
theorem c38_17_k : enCtF c38_17 c38_17_e (pkP (c38_17_pts ++ []) [0, 2, 4]) (none) ((hOr (hCp 31) (hOr (hTok 41) (hOr (hSl 17 2) (hOr (hSl 46 2) (hOr (hEnd7 58) (hOr (hSs 7 1) (hOr (hSs 18 1) (hSs 47 1)))))))), noM, 128, 288443683555377280, 5) 3000 = true := by decide +kernel
set_option maxRecDepth 100000 in
theorem c38_17_k0 : ptCtF c38_17 c38_17_e (pkP (c38_17_pts ++ []) []) ((hOr (hCp 31) (hOr (hTok 41) (hOr (hSl 17 2) (hOr (hSl 46 2) (hOr (hEnd7 58) (hOr (hSs 7 1) (hOr (hSs 18 1) (hSs 47 1)))))))), noM, 128, 288443683555377280, 5) 3000 c38_17_p0 = true := by decide +kernel
set_option maxRecDepth 100000 in
theorem c38_17_k1 : ptCtF c38_17 c38_17_e (pkP (c38_17_pts ++ []) []) ((hOr (hCp 31) (hOr (hTok 41) (hOr (hSl 17 2) (hOr (hSl 46 2) (hOr (hEnd7 58) (hOr (hSs 7 1) (hOr (hSs 18 1) (hSs 47 1)))))))), noM, 128, 288443683555377280, 5) 3000 c38_17_p1 = true := by decide +kernel
set_option maxRecDepth 100000 in
theorem c38_17_k2 : ptCtF c38_17 c38_17_e (pkP (c38_17_pts ++ []) [1, 3, 5]) ((hOr (hCp 31) (hOr (hTok 41) (hOr (hSl 17 2) (hOr (hSl 46 2) (hOr (hEnd7 58) (hOr (hSs 7 1) (hOr (hSs 18 1) (hSs 47 1)))))))), noM, 128, 288443683555377280, 5) 3000 c38_17_p2 = true := by decide +kernel
set_option maxRecDepth 100000 in
theorem c38_17_k3 : ptCtF c38_17 c38_17_e (pkP (c38_17_pts ++ []) [1, 3, 5]) ((hOr (hCp 31) (hOr (hTok 41) (hOr (hSl 17 2) (hOr (hSl 46 2) (hOr (hEnd7 58) (hOr (hSs 7 1) (hOr (hSs 18 1) (hSs 47 1)))))))), noM, 128, 288443683555377280, 5) 3000 c38_17_p3 = true := by decide +kernel
set_option maxRecDepth 100000 in
theorem c38_17_k4 : ptCtF c38_17 c38_17_e (pkP (c38_17_pts ++ []) []) ((hOr (hCp 31) (hOr (hTok 41) (hOr (hSl 17 2) (hOr (hSl 46 2) (hOr (hEnd7 58) (hOr (hSs 7 1) (hOr (hSs 18 1) (hSs 47 1)))))))), noM, 128, 288443683555377280, 5) 3000 c38_17_p4 = true := by decide +kernel
set_option maxRecDepth 100000 in
theorem c38_17_k5 : ptCtF c38_17 c38_17_e (pkP (c38_17_pts ++ []) []) ((hOr (hCp 31) (hOr (hTok 41) (hOr (hSl 17 2) (hOr (hSl 46 2) (hOr (hEnd7 58) (hOr (hSs 7 1) (hOr (hSs 18 1) (hSs 47 1)))))))), noM, 128, 288443683555377280, 5) 3000 c38_17_p5 = true := by decide +kernel
set_option maxRecDepth 100000 in
theorem c38_17_v : ValidC PPk c38_17 := ct_ok fpk ⟨(hOr_ok (hCp_ok 31) (hOr_ok (hTok_ok 41) (hOr_ok (hSl_ok 17 2) (hOr_ok (hSl_ok 46 2) (hOr_ok (hEnd7_ok 58) (hOr_ok (hSs_ok 7 1) (hOr_ok (hSs_ok 18 1) (hSs_ok 47 1)))))))), noM_ok⟩ (d := 68) (ext := []) (pts := c38_17_pts) (env := c38_17_e) rfl (List.forall_mem_cons.mpr ⟨⟨c39_17_v, Nat.le_of_ble_eq_true rfl⟩, List.forall_mem_cons.mpr ⟨⟨c40_104_v, Nat.le_of_ble_eq_true rfl⟩, List.forall_mem_cons.mpr ⟨⟨c40_103_v, Nat.le_of_ble_eq_true rfl⟩, List.forall_mem_cons.mpr ⟨⟨c40_9_v, Nat.le_of_ble_eq_true rfl⟩, List.forall_mem_cons.mpr ⟨⟨c44_0_v, Nat.le_of_ble_eq_true rfl⟩, fun _ h => (by cases h)⟩⟩⟩⟩⟩) ext_nil (fun q h => (by cases h)) (enF c38_17_k) (List.forall_mem_cons.mpr ⟨⟨_, ptF c38_17_k0⟩, List.forall_mem_cons.mpr ⟨⟨_, ptF c38_17_k1⟩, List.forall_mem_cons.mpr ⟨⟨_, ptF c38_17_k2⟩, List.forall_mem_cons.mpr ⟨⟨_, ptF c38_17_k3⟩, List.forall_mem_cons.mpr ⟨⟨_, ptF c38_17_k4⟩, List.forall_mem_cons.mpr ⟨⟨_, ptF c38_17_k5⟩, fun _ h => (by cases h)⟩⟩⟩⟩⟩⟩)

noncomputable def c40_105 : Ct := (40, 1, (7, [qtN 0 0 60, qtN 1 0 60, qtN 2 0 60, qtN 6 1 12], [((.ofNat 0), [(0, (.negSucc 0)), (1, (.ofNat 1))])], [qvR 0], zh111, [(10, [1], [((.ofNat 0), []), (sL 0), (sL 4), ((.ofNat 0), []), ((.ofNat 0), [])]), (28, [], [(sL 0), (sL 4), (sL 1), ((.ofNat 1), []), ((.ofNat 0), []), (sL 5), ((.ofNat 1), [])]), (29, [], [(sL 0), (sL 4), (sL 1), (sL 6)])]),
  [((7, [], [((.ofNat 7), [(6, (.negSucc 0))]), ((.negSucc 6), [(6, (.ofNat 1))]), ((.ofNat 0), [(0, (.ofNat 1)), (1, (.negSucc 0))])], [qvK (.negSucc 0)], zh111, [(29, [], [(sL 0), (sL 4), (sL 1), ((.ofNat 7), [])]), (10, [1], [((.ofNat 0), []), (sL 0), (sL 4), ((.ofNat 0), []), ((.ofNat 0), [])]), (28, [], [(sL 0), (sL 4), (sL 1), ((.ofNat 1), []), ((.ofNat 0), []), (sL 5), ((.ofNat 1), [])])]), 0, 0),
   ((8, [qtN 0 1 60, qtN 1 0 59, qtN 7 0 127], [((.ofNat 1), [(6, (.negSucc 0))]), ((.negSucc 0), [(6, (.ofNat 1))]), ((.ofNat 1), [(0, (.negSucc 0)), (1, (.ofNat 1))])], [qvS 7], zh111, [(29, [], [(sL 0), (sL 4), (sL 1), ((.ofNat 1), [])]), (28, [], [(sL 0), (sL 4), (sL 1), (sL 7)]), (10, [1], [((.ofNat 0), []), (sL 0), (sL 4), ((.ofNat 0), []), ((.ofNat 0), [])]), (28, [], [(sL 0), (sL 4), (sL 1), ((.ofNat 1), []), ((.ofNat 0), []), (sL 5), ((.ofNat 1), [])]), (7, [1], [(sL 1), (sL 7)])]), 0, 0),
   ((7, [qtN 0 1 60, qtN 1 0 59], [((.ofNat 6), [(6, (.negSucc 0))]), ((.negSucc 5), [(6, (.ofNat 1))]), ((.ofNat 1), [(0, (.negSucc 0)), (1, (.ofNat 1))])], [qvK (.ofNat 33)], zh111, [(29, [], [(sL 0), (sL 4), (sL 1), ((.ofNat 6), [])]), (28, [], [(sL 0), (sL 4), (sL 1), ((.ofNat 33), [])]), (10, [1], [((.ofNat 0), []), (sL 0), (sL 4), ((.ofNat 0), []), ((.ofNat 0), [])]), (28, [], [(sL 0), (sL 4), (sL 1), ((.ofNat 1), []), ((.ofNat 0), []), (sL 5), ((.ofNat 1), [])]), (7, [1], [(sL 1), ((.ofNat 33), [])])]), 0, 0),
   ((7, [qtN 0 1 60, qtN 1 0 59], [((.ofNat 9), [(6, (.negSucc 0))]), ((.negSucc 8), [(6, (.ofNat 1))]), ((.ofNat 1), [(0, (.negSucc 0)), (1, (.ofNat 1))])], [qvK (.ofNat 38)], zh111, [(29, [], [(sL 0), (sL 4), (sL 1), ((.ofNat 9), [])]), (28, [], [(sL 0), (sL 4), (sL 1), ((.ofNat 38), [])]), (10, [1], [((.ofNat 0), []), (sL 0), (sL 4), ((.ofNat 0), []), ((.ofNat 0), [])]), (28, [], [(sL 0), (sL 4), (sL 1), ((.ofNat 1), []), ((.ofNat 0), []), (sL 5), ((.ofNat 1), [])]), (7, [1], [(sL 1), ((.ofNat 38), [])])]), 0, 0),
   ((7, [qtN 0 1 60, qtN 1 0 59], [((.ofNat 4), [(6, (.negSucc 0))]), ((.negSucc 3), [(6, (.ofNat 1))]), ((.ofNat 1), [(0, (.negSucc 0)), (1, (.ofNat 1))])], [qvK (.ofNat 40)], zh111, [(29, [], [(sL 0), (sL 4), (sL 1), ((.ofNat 4), [])]), (28, [], [(sL 0), (sL 4), (sL 1), ((.ofNat 40), [])]), (10, [1], [((.ofNat 0), []), (sL 0), (sL 4), ((.ofNat 0), []), ((.ofNat 0), [])]), (28, [], [(sL 0), (sL 4), (sL 1), ((.ofNat 1), []), ((.ofNat 0), []), (sL 5), ((.ofNat 1), [])]), (7, [1], [(sL 1), ((.ofNat 40), [])])]), 0, 0),
   ((7, [qtN 0 1 60, qtN 1 0 59], [((.ofNat 5), [(6, (.negSucc 0))]), ((.negSucc 4), [(6, (.ofNat 1))]), ((.ofNat 1), [(0, (.negSucc 0)), (1, (.ofNat 1))])], [qvK (.ofNat 41)], zh111, [(29, [], [(sL 0), (sL 4), (sL 1), ((.ofNat 5), [])]), (28, [], [(sL 0), (sL 4), (sL 1), ((.ofNat 41), [])]), (10, [1], [((.ofNat 0), []), (sL 0), (sL 4), ((.ofNat 0), []), ((.ofNat 0), [])]), (28, [], [(sL 0), (sL 4), (sL 1), ((.ofNat 1), []), ((.ofNat 0), []), (sL 5), ((.ofNat 1), [])]), (7, [1], [(sL 1), ((.ofNat 41), [])])]), 0, 0),
   ((7, [qtN 0 1 60, qtN 1 0 59], [((.ofNat 12), [(6, (.negSucc 0))]), ((.negSucc 11), [(6, (.ofNat 1))]), ((.ofNat 1), [(0, (.negSucc 0)), (1, (.ofNat 1))])], [qvK (.ofNat 43)], zh111, [(29, [], [(sL 0), (sL 4), (sL 1), ((.ofNat 12), [])]), (28, [], [(sL 0), (sL 4), (sL 1), ((.ofNat 43), [])]), (10, [1], [((.ofNat 0), []), (sL 0), (sL 4), ((.ofNat 0), []), ((.ofNat 0), [])]), (28, [], [(sL 0), (sL 4), (sL 1), ((.ofNat 1), []), ((.ofNat 0), []), (sL 5), ((.ofNat 1), [])]), (7, [1], [(sL 1), ((.ofNat 43), [])])]), 0, 0),
   ((7, [qtN 0 1 60, qtN 1 0 59], [((.ofNat 11), [(6, (.negSucc 0))]), ((.negSucc 10), [(6, (.ofNat 1))]), ((.ofNat 1), [(0, (.negSucc 0)), (1, (.ofNat 1))])], [qvK (.ofNat 45)], zh111, [(29, [], [(sL 0), (sL 4), (sL 1), ((.ofNat 11), [])]), (28, [], [(sL 0), (sL 4), (sL 1), ((.ofNat 45), [])]), (10, [1], [((.ofNat 0), []), (sL 0), (sL 4), ((.ofNat 0), []), ((.ofNat 0), [])]), (28, [], [(sL 0), (sL 4), (sL 1), ((.ofNat 1), []), ((.ofNat 0), []), (sL 5), ((.ofNat 1), [])]), (7, [1], [(sL 1), ((.ofNat 45), [])])]), 0, 0),
   ((8, [qtN 0 1 60, qtN 1 0 59, qtN 7 48 57], [((.ofNat 2), [(6, (.negSucc 0))]), ((.negSucc 1), [(6, (.ofNat 1))]), ((.ofNat 1), [(0, (.negSucc 0)), (1, (.ofNat 1))])], [qvS 7], zh111, [(29, [], [(sL 0), (sL 4), (sL 1), ((.ofNat 2), [])]), (28, [], [(sL 0), (sL 4), (sL 1), (sL 7)]), (10, [1], [((.ofNat 0), []), (sL 0), (sL 4), ((.ofNat 0), []), ((.ofNat 0), [])]), (28, [], [(sL 0), (sL 4), (sL 1), ((.ofNat 1), []), ((.ofNat 0), []), (sL 5), ((.ofNat 1), [])]), (7, [1], [(sL 1), (sL 7)])]), 0, 0),
   ((8, [qtN 0 1 60, qtN 1 0 59, qtN 7 60 62], [((.ofNat 10), [(6, (.negSucc 0))]), ((.negSucc 9), [(6, (.ofNat 1))]), ((.ofNat 1), [(0, (.negSucc 0)), (1, (.ofNat 1))])], [qvS 7], zh111, [(29, [], [(sL 0), (sL 4), (sL 1), ((.ofNat 10), [])]), (28, [], [(sL 0), (sL 4), (sL 1), (sL 7)]), (10, [1], [((.ofNat 0), []), (sL 0), (sL 4), ((.ofNat 0), []), ((.ofNat 0), [])]), (28, [], [(sL 0), (sL 4), (sL 1), ((.ofNat 1), []), ((.ofNat 0), []), (sL 5), ((.ofNat 1), [])]), (7, [1], [(sL 1), (sL 7)])]), 0, 0),
   ((7, [qtN 0 1 60, qtN 1 0 59], [((.ofNat 3), [(6, (.negSucc 0))]), ((.negSucc 2), [(6, (.ofNat 1))]), ((.ofNat 1), [(0, (.negSucc 0)), (1, (.ofNat 1))])], [qvK (.ofNat 100)], zh111, [(29, [], [(sL 0), (sL 4), (sL 1), ((.ofNat 3), [])]), (28, [], [(sL 0), (sL 4), (sL 1), ((.ofNat 100), [])]), (10, [1], [((.ofNat 0), []), (sL 0), (sL 4), ((.ofNat 0), []), ((.ofNat 0), [])]), (28, [], [(sL 0), (sL 4), (sL 1), ((.ofNat 1), []), ((.ofNat 0), []), (sL 5), ((.ofNat 1), [])]), (7, [1], [(sL 1), ((.ofNat 100), [])])]), 0, 0),
   ((7, [qtN 0 1 60, qtN 1 0 59], [((.ofNat 3), [(6, (.negSucc 0))]), ((.negSucc 2), [(6, (.ofNat 1))]), ((.ofNat 1), [(0, (.negSucc 0)), (1, (.ofNat 1))])], [qvK (.ofNat 102)], zh111, [(29, [], [(sL 0), (sL 4), (sL 1), ((.ofNat 3), [])]), (28, [], [(sL 0), (sL 4), (sL 1), ((.ofNat 102), [])]), (10, [1], [((.ofNat 0), []), (sL 0), (sL 4), ((.ofNat 0), []), ((.ofNat 0), [])]), (28, [], [(sL 0), (sL 4), (sL 1), ((.ofNat 1), []), ((.ofNat 0), []), (sL 5), ((.ofNat 1), [])]), (7, [1], [(sL 1), ((.ofNat 102), [])])]), 0, 0),
   ((7, [qtN 0 1 60, qtN 1 0 59], [((.ofNat 3), [(6, (.negSucc 0))]), ((.negSucc 2), [(6, (.ofNat 1))]), ((.ofNat 1), [(0, (.negSucc 0)), (1, (.ofNat 1))])], [qvK (.ofNat 104)], zh111, [(29, [], [(sL 0), (sL 4), (sL 1), ((.ofNat 3), [])]), (28, [], [(sL 0), (sL 4), (sL 1), ((.ofNat 104), [])]), (10, [1], [((.ofNat 0), []), (sL 0), (sL 4), ((.ofNat 0), []), ((.ofNat 0), [])]), (28, [], [(sL 0), (sL 4), (sL 1), ((.ofNat 1), []), ((.ofNat 0), []), (sL 5), ((.ofNat 1), [])]), (7, [1], [(sL 1), ((.ofNat 104), [])])]), 0, 0),
   ((8, [qtN 0 1 60, qtN 1 0 59, qtN 7 109 110], [((.ofNat 3), [(6, (.negSucc 0))]), ((.negSucc 2), [(6, (.ofNat 1))]), ((.ofNat 1), [(0, (.negSucc 0)), (1, (.ofNat 1))])], [qvS 7], zh111, [(29, [], [(sL 0), (sL 4), (sL 1), ((.ofNat 3), [])]), (28, [], [(sL 0), (sL 4), (sL 1), (sL 7)]), (10, [1], [((.ofNat 0), []), (sL 0), (sL 4), ((.ofNat 0), []), ((.ofNat 0), [])]), (28, [], [(sL 0), (sL 4), (sL 1), ((.ofNat 1), []), ((.ofNat 0), []), (sL 5), ((.ofNat 1), [])]), (7, [1], [(sL 1), (sL 7)])]), 0, 0),
   ((7, [qtN 0 1 60, qtN 1 0 59], [((.ofNat 3), [(6, (.negSucc 0))]), ((.negSucc 2), [(6, (.ofNat 1))]), ((.ofNat 1), [(0, (.negSucc 0)), (1, (.ofNat 1))])], [qvK (.ofNat 118)], zh111, [(29, [], [(sL 0), (sL 4), (sL 1), ((.ofNat 3), [])]), (28, [], [(sL 0), (sL 4), (sL 1), ((.ofNat 118), [])]), (10, [1], [((.ofNat 0), []), (sL 0), (sL 4), ((.ofNat 0), []), ((.ofNat 0), [])]), (28, [], [(sL 0), (sL 4), (sL 1), ((.ofNat 1), []), ((.ofNat 0), []), (sL 5), ((.ofNat 1), [])]), (7, [1], [(sL 1), ((.ofNat 118), [])])]), 0, 0),
   ((7, [qtN 0 1 60, qtN 1 0 59], [((.ofNat 8), [(6, (.negSucc 0))]), ((.negSucc 7), [(6, (.ofNat 1))]), ((.ofNat 1), [(0, (.negSucc 0)), (1, (.ofNat 1))])], [qvK (.ofNat 124)], zh111, [(29, [], [(sL 0), (sL 4), (sL 1), ((.ofNat 8), [])]), (28, [], [(sL 0), (sL 4), (sL 1), ((.ofNat 124), [])]), (10, [1], [((.ofNat 0), []), (sL 0), (sL 4), ((.ofNat 0), []), ((.ofNat 0), [])]), (28, [], [(sL 0), (sL 4), (sL 1), ((.ofNat 1), []), ((.ofNat 0), []), (sL 5), ((.ofNat 1), [])]), (7, [1], [(sL 1), ((.ofNat 124), [])])]), 0, 0)])
noncomputable def c40_105_e : List Ct := []
noncomputable def c40_105_p0 : PE := (10, [0], (7, [qtN 0 0 60, qtN 1 0 60, qtN 2 0 60, qtN 6 1 12], [((.ofNat 0), [(0, (.negSucc 0)), (1, (.ofNat 1))])], [qvR 0], zh111, [(10, [1], [((.ofNat 0), []), (sL 0), (sL 4), ((.ofNat 0), []), ((.ofNat 0), [])]), (28, [], [(sL 0), (sL 4), (sL 1), ((.ofNat 1), []), ((.ofNat 0), []), (sL 5), ((.ofNat 1), [])]), (29, [], [(sL 0), (sL 4), (sL 1), (sL 6)])]), symsL 7 0, some ((.ofNat 1), []), 0, 0)
noncomputable def c40_105_pts : List PE := [c40_105_p0]
set_option maxRecDepth 100000 in
theorem c40_105_k : enCtF c40_105 c40_105_e (pkP (c40_105_pts ++ []) [0]) (none) ((hOr (hThen (hChr 26 1) (hSpl 26)) (hOr (hCp 45) (hOr (hTok 45) (hEnd7 58)))), (mOr (mCL 29) (mCL 43)), 1024, 288274357220802560, 7) 3000 = true := by decide +kernel
set_option maxRecDepth 100000 in
theorem c40_105_k0 : ptCtF c40_105 c40_105_e (pkP (c40_105_pts ++ []) []) ((hOr (hThen (hChr 26 1) (hSpl 26)) (hOr (hCp 45) (hOr (hTok 45) (hEnd7 58)))), (mOr (mCL 29) (mCL 43)), 1024, 288274357220802560, 7) 3000 c40_105_p0 = true := by decide +kernel
set_option maxRecDepth 100000 in
theorem c40_105_v : ValidC PPk c40_105 := ct_ok fpk ⟨(hOr_ok (hThen_ok (hChr_ok 26 1) (hSpl_ok 26)) (hOr_ok (hCp_ok 45) (hOr_ok (hTok_ok 45) (hEnd7_ok 58)))), (mOr_ok (mCL_ok 29) (mCL_ok 43))⟩ (d := 0) (ext := []) (pts := c40_105_pts) (env := c40_105_e) rfl (fun _ h => (by cases h)) ext_nil (fun q h => (by cases h)) (enF c40_105_k) (List.forall_mem_cons.mpr ⟨⟨_, ptF c40_105_k0⟩, fun _ h => (by cases h)⟩)

noncomputable def c37_17 : Ct := (37, 70, (5, [qtN 0 0 60, qtN 1 0 60, qtN 2 0 60], [((.ofNat 0), [(0, (.negSucc 0)), (1, (.ofNat 1))])], [qvR 0, qvK (.ofNat 0)], zh119, [(10, [1], [((.ofNat 0), []), (sL 0), (sL 3), ((.ofNat 0), []), ((.ofNat 0), [])]), (28, [], [(sL 0), (sL 3), (sL 1), ((.ofNat 0), []), ((.ofNat 0), []), (sL 4), ((.ofNat 1), [])])]),
  [((14, (zt55 []), [((.ofNat 0), [(0, (.negSucc 0)), (6, (.ofNat 1))]), ((.ofNat 0), [(1, (.ofNat 1)), (6, (.negSucc 0))])], [], zh129, [(10, [1], [((.ofNat 0), []), (sL 0), (sL 3), ((.ofNat 0), []), ((.ofNat 0), [])]), (28, [], [(sL 0), (sL 3), (sL 5)]), (28, [], [(sL 0), (sL 3), (sL 8), (sL 9), (sL 10), (sL 11), (sL 12)]), (29, [], [(sL 0), (sL 3), (sL 8), (sL 13)])]), 0, 0),
   ((8, [qtN 0 1 60, qtN 1 0 59, qtN 5 1 60, qtN 6 1 60, qtN 7 1 9], [((.ofNat 1), [(0, (.negSucc 0)), (1, (.ofNat 1))]), ((.ofNat 0), [(0, (.negSucc 0)), (5, (.ofNat 1))]), ((.ofNat 0), [(1, (.ofNat 1)), (5, (.negSucc 0))]), ((.ofNat 1), [(1, (.ofNat 1)), (5, (.negSucc 0))])], [], zh120, [(29, [], [(sL 0), (sL 3), (sL 5), (sL 7)]), (10, [1], [((.ofNat 0), []), (sL 0), (sL 3), ((.ofNat 0), []), ((.ofNat 0), [])]), (28, [], [(sL 0), (sL 3), (sL 5), ((.ofNat 1), []), ((.ofNat 0), []), (sL 4), ((.ofNat 1), [])])]), 0, 0),
   ((8, [qtN 0 2 60, qtN 1 0 59, qtN 5 1 59, qtN 6 1 60, qtN 7 60 62], [((.ofNat 1), [(0, (.negSucc 0)), (1, (.ofNat 1))]), ((.ofNat 2), [(0, (.negSucc 0)), (1, (.ofNat 1))]), ((.ofNat 0), [(0, (.negSucc 0)), (5, (.ofNat 1))]), ((.ofNat 1), [(0, (.negSucc 0)), (5, (.ofNat 1))]), ((.ofNat 0), [(1, (.ofNat 1)), (5, (.negSucc 0))]), ((.ofNat 1), [(1, (.ofNat 1)), (5, (.negSucc 0))])], [], zh120, [(29, [], [(sL 0), (sL 3), (sL 5), ((.ofNat 10), [])]), (28, [], [(sL 0), (sL 3), (sL 5), (sL 7)]), (10, [1], [((.ofNat 0), []), (sL 0), (sL 3), ((.ofNat 0), []), ((.ofNat 0), [])]), (28, [], [(sL 0), (sL 3), (sL 5), ((.ofNat 1), []), ((.ofNat 0), []), (sL 4), ((.ofNat 1), [])])]), 0, 0)])
noncomputable def c37_17_e : List Ct := [c38_17, c40_104, c40_105, c40_9, c44_0]
noncomputable def c37_17_p0 : PE := (7, [0, 1, 2], (14, (zt56 []), [((.ofNat 0), [(0, (.negSucc 0)), (1, (.ofNat 1))]), ((.ofNat 0), [(0, (.negSucc 0)), (6, (.ofNat 1))]), ((.ofNat 0), [(1, (.ofNat 1)), (6, (.negSucc 0))])], [qvR 0, qvK (.ofNat 0), qvK (.ofNat 0)], zh129, [(10, [1], [((.ofNat 0), []), (sL 0), (sL 3), ((.ofNat 0), []), ((.ofNat 0), [])]), (28, [], [(sL 0), (sL 3), (sL 5)]), (28, [], [(sL 0), (sL 3), (sL 8), (sL 9), (sL 10), (sL 11), (sL 12)]), (29, [], [(sL 0), (sL 3), (sL 8), (sL 13)])]), symsL 5 0, some ((.ofNat 119), []), 0, 0)
noncomputable def c37_17_p1 : PE := (7, [0, 1, 2, 3], (16, [qtN 0 2 60, qtN 1 0 59, qtN 2 0 60, qtN 5 1 59, qtN 6 43 45, qtN 7 1 910, qtN 8 2 60, qtN 9 1 60, qtN 10 0 60, qtN 11 0 1, qtN 12 0 8, qtN 14 0 1, qtN 15 1 13], [((.ofNat 1), [(0, (.negSucc 0)), (1, (.ofNat 1))]), ((.ofNat 0), [(0, (.negSucc 0)), (1, (.ofNat 1))]), ((.ofNat 2), [(0, (.negSucc 0)), (1, (.ofNat 1))]), ((.ofNat 0), [(0, (.negSucc 0)), (8, (.ofNat 1))]), ((.ofNat 0), [(1, (.ofNat 1)), (8, (.negSucc 0))]), ((.ofNat 1), [(1, (.ofNat 1)), (8, (.negSucc 0))]), ((.ofNat 1), [(5, (.ofNat 1)), (8, (.negSucc 0))]), ((.ofNat 0), [(5, (.ofNat 1)), (8, (.negSucc 0))])], [qvR 0, qvK (.ofNat 0), qvS 5, qvS 6], zh134, [(10, [1], [((.ofNat 0), []), (sL 0), (sL 3), ((.ofNat 0), []), ((.ofNat 0), [])]), (28, [], [(sL 0), (sL 3), (sL 7)]), (28, [], [(sL 0), (sL 3), (sL 10), (sL 11), (sL 12), (sL 13), (sL 14)]), (29, [], [(sL 0), (sL 3), (sL 10), (sL 15)])]), symsL 5 0, some ((.ofNat 119), [(5, (.negSucc 0))]), 0, 0)
noncomputable def c37_17_p2 : PE := (7, [0, 1, 2], (8, (zt20 []), [((.ofNat 1), [(0, (.negSucc 0)), (1, (.ofNat 1))]), ((.ofNat 0), [(0, (.negSucc 0)), (1, (.ofNat 1))]), ((.ofNat 0), [(0, (.negSucc 0)), (5, (.ofNat 1))]), ((.ofNat 0), [(1, (.ofNat 1)), (5, (.negSucc 0))]), ((.ofNat 1), [(1, (.ofNat 1)), (5, (.negSucc 0))])], [qvR 0, qvK (.ofNat 0), qvK (.ofNat 0)], zh120, [(29, [], [(sL 0), (sL 3), (sL 5), (sL 7)]), (10, [1], [((.ofNat 0), []), (sL 0), (sL 3), ((.ofNat 0), []), ((.ofNat 0), [])]), (28, [], [(sL 0), (sL 3), (sL 5), ((.ofNat 1), []), ((.ofNat 0), []), (sL 4), ((.ofNat 1), [])])]), symsL 5 0, some ((.ofNat 119), []), 0, 0)
noncomputable def c37_17_p3 : PE := (7, [0, 1, 2, 3], (10, [qtN 0 3 60, qtN 1 0 59, qtN 2 0 60, qtN 5 1 59, qtN 6 43 45, qtN 7 3 60, qtN 8 1 60, qtN 9 1 12], [((.ofNat 2), [(0, (.negSucc 0)), (1, (.ofNat 1))]), ((.ofNat 1), [(0, (.negSucc 0)), (1, (.ofNat 1))]), ((.ofNat 0), [(0, (.negSucc 0)), (1, (.ofNat 1))]), ((.ofNat 3), [(0, (.negSucc 0)), (1, (.ofNat 1))]), ((.ofNat 0), [(0, (.negSucc 0)), (7, (.ofNat 1))]), ((.ofNat 0), [(1, (.ofNat 1)), (7, (.negSucc 0))]), ((.ofNat 1), [(1, (.ofNat 1)), (7, (.negSucc 0))]), ((.ofNat 1), [(5, (.ofNat 1)), (7, (.negSucc 0))]), ((.ofNat 0), [(5, (.ofNat 1)), (7, (.negSucc 0))])], [qvR 0, qvK (.ofNat 0), qvS 5, qvS 6], zh135, [(29, [], [(sL 0), (sL 3), (sL 7), (sL 9)]), (10, [1], [((.ofNat 0), []), (sL 0), (sL 3), ((.ofNat 0), []), ((.ofNat 0), [])]), (28, [], [(sL 0), (sL 3), (sL 7), ((.ofNat 1), []), ((.ofNat 0), []), (sL 4), ((.ofNat 1), [])])]), symsL 5 0, some ((.ofNat 119), [(5, (.negSucc 0))]), 0, 0)
noncomputable def c37_17_p4 : PE := (7, [0, 1, 2], (8, (zt19 []), [((.ofNat 1), [(0, (.negSucc 0)), (1, (.ofNat 1))]), ((.ofNat 0), [(0, (.negSucc 0)), (1, (.ofNat 1))]), ((.ofNat 0), [(0, (.negSucc 0)), (5, (.ofNat 1))]), ((.ofNat 1), [(0, (.negSucc 0)), (5, (.ofNat 1))]), ((.ofNat 0), [(1, (.ofNat 1)), (5, (.negSucc 0))]), ((.ofNat 1), [(1, (.ofNat 1)), (5, (.negSucc 0))])], [qvR 0, qvK (.ofNat 0), qvK (.ofNat 0)], zh120, [(29, [], [(sL 0), (sL 3), (sL 5), ((.ofNat 10), [])]), (28, [], [(sL 0), (sL 3), (sL 5), (sL 7)]), (10, [1], [((.ofNat 0), []), (sL 0), (sL 3), ((.ofNat 0), []), ((.ofNat 0), [])]), (28, [], [(sL 0), (sL 3), (sL 5), ((.ofNat 1), []), ((.ofNat 0), []), (sL 4), ((.ofNat 1), [])])]), symsL 5 0, some ((.ofNat 119), []), 0, 0)
noncomputable def c37_17_p5 : PE := (7, [0, 1, 2, 3], (10, [qtN 0 3 60, qtN 1 0 59, qtN 2 0 60, qtN 5 1 59, qtN 6 43 45, qtN 7 3 59, qtN 8 1 60, qtN 9 60 62], [((.ofNat 2), [(0, (.negSucc 0)), (1, (.ofNat 1))]), ((.ofNat 1), [(0, (.negSucc 0)), (1, (.ofNat 1))]), ((.ofNat 0), [(0, (.negSucc 0)), (1, (.ofNat 1))]), ((.ofNat 3), [(0, (.negSucc 0)), (1, (.ofNat 1))]), ((.ofNat 0), [(0, (.negSucc 0)), (7, (.ofNat 1))]), ((.ofNat 1), [(0, (.negSucc 0)), (7, (.ofNat 1))]), ((.ofNat 0), [(1, (.ofNat 1)), (7, (.negSucc 0))]), ((.ofNat 1), [(1, (.ofNat 1)), (7, (.negSucc 0))]), ((.ofNat 1), [(5, (.ofNat 1)), (7, (.negSucc 0))]), ((.ofNat 0), [(5, (.ofNat 1)), (7, (.negSucc 0))])], [qvR 0, qvK (.ofNat 0), qvS 5, qvS 6], zh135, [(29, [], [(sL 0), (sL 3), (sL 7), ((.ofNat 10), [])]), (28, [], [(sL 0), (sL 3), (sL 7), (sL 9)]), (10, [1], [((.ofNat 0), []), (sL 0), (sL 3), ((.ofNat 0), []), ((.ofNat 0), [])]), (28, [], [(sL 0), (sL 3), (sL 7), ((.ofNat 1), []), ((.ofNat 0), []), (sL 4), ((.ofNat 1), [])])]), symsL 5 0, some ((.ofNat 119), [(5, (.negSucc 0))]), 0, 0)
noncomputable def c37_17_pts : List PE := [c37_17_p0, c37_17_p1, c37_17_p2, c37_17_p3, c37_17_p4, c37_17_p5]
set_option maxRecDepth 100000 in
theorem c37_17_k : enCtF c37_17 c37_17_e (pkP (c37_17_pts ++ []) [0, 2, 4]) (none) ((hOr (hCp 31) (hOr (hTok 41) (hOr (hSl 17 2) (hOr (hSl 46 2) (hOr (hEnd7 58) (hOr (hSs 7 1) (hOr (hSs 18 1) (hSs 47 1)))))))), noM, 128, 288443683555377280, 5) 3000 = true := by decide +kernel
set_option maxRecDepth 100000 in
theorem c37_17_k0 : ptCtF c37_17 c37_17_e (pkP (c37_17_pts ++ []) []) ((hOr (hCp 31) (hOr (hTok 41) (hOr (hSl 17 2) (hOr (hSl 46 2) (hOr (hEnd7 58) (hOr (hSs 7 1) (hOr (hSs 18 1) (hSs 47 1)))))))), noM, 128, 288443683555377280, 5) 3000 c37_17_p0 = true := by decide +kernel
set_option maxRecDepth 100000 in
theorem c37_17_k1 : ptCtF c37_17 c37_17_e (pkP (c37_17_pts ++ []) []) ((hOr (hCp 31) (hOr (hTok 41) (hOr (hSl 17 2) (hOr (hSl 46 2) (hOr (hEnd7 58) (hOr (hSs 7 1) (hOr (hSs 18 1) (hSs 47 1)))))))), noM, 128, 288443683555377280, 5) 3000 c37_17_p1 = true := by decide +kernel
set_option maxRecDepth 100000 in
theorem c37_17_k2 : ptCtF c37_17 c37_17_e (pkP (c37_17_pts ++ []) [1, 3, 5]) ((hOr (hCp 31) (hOr (hTok 41) (hOr (hSl 17 2) (hOr (hSl 46 2) (hOr (hEnd7 58) (hOr (hSs 7 1) (hOr (hSs 18 1) (hSs 47 1)))))))), noM, 128, 288443683555377280, 5) 3000 c37_17_p2 = true := by decide +kernel
set_option maxRecDepth 100000 in
theorem c37_17_k3 : ptCtF c37_17 c37_17_e (pkP (c37_17_pts ++ []) [1, 3, 5]) ((hOr (hCp 31) (hOr (hTok 41) (hOr (hSl 17 2) (hOr (hSl 46 2) (hOr (hEnd7 58) (hOr (hSs 7 1) (hOr (hSs 18 1) (hSs 47 1)))))))), noM, 128, 288443683555377280, 5) 3000 c37_17_p3 = true := by decide +kernel
set_option maxRecDepth 100000 in
theorem c37_17_k4 : ptCtF c37_17 c37_17_e (pkP (c37_17_pts ++ []) []) ((hOr (hCp 31) (hOr (hTok 41) (hOr (hSl 17 2) (hOr (hSl 46 2) (hOr (hEnd7 58) (hOr (hSs 7 1) (hOr (hSs 18 1) (hSs 47 1)))))))), noM, 128, 288443683555377280, 5) 3000 c37_17_p4 = true := by decide +kernel
set_option maxRecDepth 100000 in
theorem c37_17_k5 : ptCtF c37_17 c37_17_e (pkP (c37_17_pts ++ []) []) ((hOr (hCp 31) (hOr (hTok 41) (hOr (hSl 17 2) (hOr (hSl 46 2) (hOr (hEnd7 58) (hOr (hSs 7 1) (hOr (hSs 18 1) (hSs 47 1)))))))), noM, 128, 288443683555377280, 5) 3000 c37_17_p5 = true := by decide +kernel
set_option maxRecDepth 100000 in
theorem c37_17_v : ValidC PPk c37_17 := ct_ok fpk ⟨(hOr_ok (hCp_ok 31) (hOr_ok (hTok_ok 41) (hOr_ok (hSl_ok 17 2) (hOr_ok (hSl_ok 46 2) (hOr_ok (hEnd7_ok 58) (hOr_ok (hSs_ok 7 1) (hOr_ok (hSs_ok 18 1) (hSs_ok 47 1)))))))), noM_ok⟩ (d := 69) (ext := []) (pts := c37_17_pts) (env := c37_17_e) rfl (List.forall_mem_cons.mpr ⟨⟨c38_17_v, Nat.le_of_ble_eq_true rfl⟩, List.forall_mem_cons.mpr ⟨⟨c40_104_v, Nat.le_of_ble_eq_true rfl⟩, List.forall_mem_cons.mpr ⟨⟨c40_105_v, Nat.le_of_ble_eq_true rfl⟩, List.forall_mem_cons.mpr ⟨⟨c40_9_v, Nat.le_of_ble_eq_true rfl⟩, List.forall_mem_cons.mpr ⟨⟨c44_0_v, Nat.le_of_ble_eq_true rfl⟩, fun _ h => (by cases h)⟩⟩⟩⟩⟩) ext_nil (fun q h => (by cases h)) (enF c37_17_k) (List.forall_mem_cons.mpr ⟨⟨_, ptF c37_17_k0⟩, List.forall_mem_cons.mpr ⟨⟨_, ptF c37_17_k1⟩, List.forall_mem_cons.mpr ⟨⟨_, ptF c37_17_k2⟩, List.forall_mem_cons.mpr ⟨⟨_, ptF c37_17_k3⟩, List.forall_mem_cons.mpr ⟨⟨_, ptF c37_17_k4⟩, List.forall_mem_cons.mpr ⟨⟨_, ptF c37_17_k5⟩, fun _ h => (by cases h)⟩⟩⟩⟩⟩⟩)

noncomputable def c36_8 : Ct := (36, 71, (5, [qtN 0 0 60, qtN 1 0 60, qtN 2 0 60], [((.ofNat 0), [(0, (.negSucc 0)), (1, (.ofNat 1))])], [qvR 0, qvK (.ofNat 0)], zh119, [(10, [1], [((.ofNat 0), []), (sL 0), (sL 3), ((.ofNat 0), []), ((.ofNat 0), [])]), (28, [], [(sL 0), (sL 3), (sL 1), ((.ofNat 0), []), ((.ofNat 0), []), (sL 4), ((.ofNat 0), [])])]),
  [((14, (zt55 []), [((.ofNat 0), [(0, (.negSucc 0)), (6, (.ofNat 1))]), ((.ofNat 0), [(1, (.ofNat 1)), (6, (.negSucc 0))])], [], zh129, [(10, [1], [((.ofNat 0), []), (sL 0), (sL 3), ((.ofNat 0), []), ((.ofNat 0), [])]), (28, [], [(sL 0), (sL 3), (sL 5)]), (28, [], [(sL 0), (sL 3), (sL 8), (sL 9), (sL 10), (sL 11), (sL 12)]), (29, [], [(sL 0), (sL 3), (sL 8), (sL 13)])]), 0, 0),
   ((9, (zt22 []), [((.ofNat 1), [(0, (.negSucc 0)), (1, (.ofNat 1))]), ((.ofNat 0), [(0, (.negSucc 0)), (5, (.ofNat 1))]), ((.ofNat 0), [(1, (.ofNat 1)), (5, (.negSucc 0))]), ((.ofNat 1), [(1, (.ofNat 1)), (5, (.negSucc 0))])], [], zh120, [(29, [], [(sL 0), (sL 3), (sL 5), (sL 7)]), (10, [1], [((.ofNat 0), []), (sL 0), (sL 3), ((.ofNat 0), []), ((.ofNat 0), [])]), (28, [], [(sL 0), (sL 3), (sL 5), ((.ofNat 1), []), ((.ofNat 0), []), (sL 4), (sL 8)])]), 0, 0),
   ((8, [qtN 0 4 60, qtN 1 0 58, qtN 5 3 59, qtN 6 1 60, qtN 7 60 62], [((.ofNat 4), [(0, (.negSucc 0)), (1, (.ofNat 1))]), ((.ofNat 3), [(0, (.negSucc 0)), (1, (.ofNat 1))]), ((.ofNat 2), [(0, (.negSucc 0)), (1, (.ofNat 1))]), ((.ofNat 1), [(0, (.negSucc 0)), (1, (.ofNat 1))]), ((.ofNat 0), [(0, (.negSucc 0)), (5, (.ofNat 1))]), ((.ofNat 1), [(0, (.negSucc 0)), (5, (.ofNat 1))]), ((.ofNat 0), [(1, (.ofNat 1)), (5, (.negSucc 0))]), ((.ofNat 1), [(1, (.ofNat 1)), (5, (.negSucc 0))])], [], zh120, [(29, [], [(sL 0), (sL 3), (sL 5), ((.ofNat 10), [])]), (28, [], [(sL 0), (sL 3), (sL 5), (sL 7)]), (10, [1], [((.ofNat 0), []), (sL 0), (sL 3), ((.ofNat 0), []), ((.ofNat 0), [])]), (28, [], [(sL 0), (sL 3), (sL 5), ((.ofNat 1), []), ((.ofNat 0), []), (sL 4), ((.ofNat 1), [])])]), 0, 0)])
noncomputable def c36_8_e : List Ct := [c37_16, c37_17, c40_99, c40_100, c40_101, c40_9, c44_0]
noncomputable def c36_8_pts : List PE := []
set_option maxRecDepth 100000 in
theorem c36_8_k : enCtF c36_8 c36_8_e (pkP (c36_8_pts ++ []) []) (none) ((hOr (hCp 29) (hOr (hTok 39) (hOr (hSs 5 1) (hOr (hSs 9 1) (hSs 44 1))))), noM, 0, 18142478729760, 5) 3000 = true := by decide +kernel
set_option maxRecDepth 100000 in
theorem c36_8_v : ValidC PPk c36_8 := ct_ok fpk ⟨(hOr_ok (hCp_ok 29) (hOr_ok (hTok_ok 39) (hOr_ok (hSs_ok 5 1) (hOr_ok (hSs_ok 9 1) (hSs_ok 44 1))))), noM_ok⟩ (d := 70) (ext := []) (pts := c36_8_pts) (env := c36_8_e) rfl (List.forall_mem_cons.mpr ⟨⟨c37_16_v, Nat.le_of_ble_eq_true rfl⟩, List.forall_mem_cons.mpr ⟨⟨c37_17_v, Nat.le_of_ble_eq_true rfl⟩, List.forall_mem_cons.mpr ⟨⟨c40_99_v, Nat.le_of_ble_eq_true rfl⟩, List.forall_mem_cons.mpr ⟨⟨c40_100_v, Nat.le_of_ble_eq_true rfl⟩, List.forall_mem_cons.mpr ⟨⟨c40_101_v, Nat.le_of_ble_eq_true rfl⟩, List.forall_mem_cons.mpr ⟨⟨c40_9_v, Nat.le_of_ble_eq_true rfl⟩, List.forall_mem_cons.mpr ⟨⟨c44_0_v, Nat.le_of_ble_eq_true rfl⟩, fun _ h => (by cases h)⟩⟩⟩⟩⟩⟩⟩) ext_nil (fun q h => (by cases h)) (enF c36_8_k) (fun _ h => (by cases h))

noncomputable def c40_106 : Ct := (40, 1, (8, [qtN 0 0 60, qtN 1 0 60, qtN 2 0 60, qtN 6 0 1, qtN 7 1 9], [((.ofNat 0), [(0, (.negSucc 0)), (1, (.ofNat 1))])], [qvR 0], zh111, [(10, [1], [((.ofNat 0), []), (sL 0), (sL 4), ((.ofNat 0), []), ((.ofNat 0), [])]), (28, [], [(sL 0), (sL 4), (sL 1), ((.ofNat 1), []), ((.ofNat 0), []), (sL 5), (sL 6)]), (29, [], [(sL 0), (sL 4), (sL 1), (sL 7)])]),
  [((8, [], [((.ofNat 7), [(7, (.negSucc 0))]), ((.negSucc 6), [(7, (.ofNat 1))]), ((.ofNat 0), [(0, (.ofNat 1)), (1, (.negSucc 0))])], [qvK (.negSucc 0)], zh111, [(29, [], [(sL 0), (sL 4), (sL 1), ((.ofNat 7), [])]), (10, [1], [((.ofNat 0), []), (sL 0), (sL 4), ((.ofNat 0), []), ((.ofNat 0), [])]), (28, [], [(sL 0), (sL 4), (sL 1), ((.ofNat 1), []), ((.ofNat 0), []), (sL 5), (sL 6)])]), 0, 0),
   ((9, [qtN 0 1 60, qtN 1 0 59, qtN 8 0 127], [((.ofNat 1), [(7, (.negSucc 0))]), ((.negSucc 0), [(7, (.ofNat 1))]), ((.ofNat 1), [(0, (.negSucc 0)), (1, (.ofNat 1))])], [qvS 8], zh111, [(29, [], [(sL 0), (sL 4), (sL 1), ((.ofNat 1), [])]), (28, [], [(sL 0), (sL 4), (sL 1), (sL 8)]), (10, [1], [((.ofNat 0), []), (sL 0), (sL 4), ((.ofNat 0), []), ((.ofNat 0), [])]), (28, [], [(sL 0), (sL 4), (sL 1), ((.ofNat 1), []), ((.ofNat 0), []), (sL 5), (sL 6)]), (7, [1], [(sL 1), (sL 8)])]), 0, 0),
   ((8, [qtN 0 1 60, qtN 1 0 59], [((.ofNat 6), [(7, (.negSucc 0))]), ((.negSucc 5), [(7, (.ofNat 1))]), ((.ofNat 1), [(0, (.negSucc 0)), (1, (.ofNat 1))])], [qvK (.ofNat 33)], zh111, [(29, [], [(sL 0), (sL 4), (sL 1), ((.ofNat 6), [])]), (28, [], [(sL 0), (sL 4), (sL 1), ((.ofNat 33), [])]), (10, [1], [((.ofNat 0), []), (sL 0), (sL 4), ((.ofNat 0), []), ((.ofNat 0), [])]), (28, [], [(sL 0), (sL 4), (sL 1), ((.ofNat 1), []), ((.ofNat 0), []), (sL 5), (sL 6)]), (7, [1], [(sL 1), ((.ofNat 33), [])])]), 0, 0),
   ((8, [qtN 0 1 60, qtN 1 0 59], [((.ofNat 9), [(7, (.negSucc 0))]), ((.negSucc 8), [(7, (.ofNat 1))]), ((.ofNat 1), [(0, (.negSucc 0)), (1, (.ofNat 1))])], [qvK (.ofNat 38)], zh111, [(29, [], [(sL 0), (sL 4), (sL 1), ((.ofNat 9), [])]), (28, [], [(sL 0), (sL 4), (sL 1), ((.ofNat 38), [])]), (10, [1], [((.ofNat 0), []), (sL 0), (sL 4), ((.ofNat 0), []), ((.ofNat 0), [])]), (28, [], [(sL 0), (sL 4), (sL 1), ((.ofNat 1), []), ((.ofNat 0), []), (sL 5), (sL 6)]), (7, [1], [(sL 1), ((.ofNat 38), [])])]), 0, 0),
   ((8, [qtN 0 1 60, qtN 1 0 59], [((.ofNat 4), [(7, (.negSucc 0))]), ((.negSucc 3), [(7, (.ofNat 1))]), ((.ofNat 1), [(0, (.negSucc 0)), (1, (.ofNat 1))])], [qvK (.ofNat 40)], zh111, [(29, [], [(sL 0), (sL 4), (sL 1), ((.ofNat 4), [])]), (28, [], [(sL 0), (sL 4), (sL 1), ((.ofNat 40), [])]), (10, [1], [((.ofNat 0), []), (sL 0), (sL 4), ((.ofNat 0), []), ((.ofNat 0), [])]), (28, [], [(sL 0), (sL 4), (sL 1), ((.ofNat 1), []), ((.ofNat 0), []), (sL 5), (sL 6)]), (7, [1], [(sL 1), ((.ofNat 40), [])])]), 0, 0),
   ((8, [qtN 0 1 60, qtN 1 0 59], [((.ofNat 5), [(7, (.negSucc 0))]), ((.negSucc 4), [(7, (.ofNat 1))]), ((.ofNat 1), [(0, (.negSucc 0)), (1, (.ofNat 1))])], [qvK (.ofNat 41)], zh111, [(29, [], [(sL 0), (sL 4), (sL 1), ((.ofNat 5), [])]), (28, [], [(sL 0), (sL 4), (sL 1), ((.ofNat 41), [])]), (10, [1], [((.ofNat 0), []), (sL 0), (sL 4), ((.ofNat 0), []), ((.ofNat 0), [])]), (28, [], [(sL 0), (sL 4), (sL 1), ((.ofNat 1), []), ((.ofNat 0), []), (sL 5), (sL 6)]), (7, [1], [(sL 1), ((.ofNat 41), [])])]), 0, 0),
   ((9, [qtN 0 1 60, qtN 1 0 59, qtN 8 48 57], [((.ofNat 2), [(7, (.negSucc 0))]), ((.negSucc 1), [(7, (.ofNat 1))]), ((.ofNat 1), [(0, (.negSucc 0)), (1, (.ofNat 1))])], [qvS 8], zh111, [(29, [], [(sL 0), (sL 4), (sL 1), ((.ofNat 2), [])]), (28, [], [(sL 0), (sL 4), (sL 1), (sL 8)]), (10, [1], [((.ofNat 0), []), (sL 0), (sL 4), ((.ofNat 0), []), ((.ofNat 0), [])]), (28, [], [(sL 0), (sL 4), (sL 1), ((.ofNat 1), []), ((.ofNat 0), []), (sL 5), (sL 6)]), (7, [1], [(sL 1), (sL 8)])]), 0, 0),
   ((8, [qtN 0 1 60, qtN 1 0 59], [((.ofNat 3), [(7, (.negSucc 0))]), ((.negSucc 2), [(7, (.ofNat 1))]), ((.ofNat 1), [(0, (.negSucc 0)), (1, (.ofNat 1))])], [qvK (.ofNat 100)], zh111, [(29, [], [(sL 0), (sL 4), (sL 1), ((.ofNat 3), [])]), (28, [], [(sL 0), (sL 4), (sL 1), ((.ofNat 100), [])]), (10, [1], [((.ofNat 0), []), (sL 0), (sL 4), ((.ofNat 0), []), ((.ofNat 0), [])]), (28, [], [(sL 0), (sL 4), (sL 1), ((.ofNat 1), []), ((.ofNat 0), []), (sL 5), (sL 6)]), (7, [1], [(sL 1), ((.ofNat 100), [])])]), 0, 0),
   ((8, [qtN 0 1 60, qtN 1 0 59], [((.ofNat 3), [(7, (.negSucc 0))]), ((.negSucc 2), [(7, (.ofNat 1))]), ((.ofNat 1), [(0, (.negSucc 0)), (1, (.ofNat 1))])], [qvK (.ofNat 102)], zh111, [(29, [], [(sL 0), (sL 4), (sL 1), ((.ofNat 3), [])]), (28, [], [(sL 0), (sL 4), (sL 1), ((.ofNat 102), [])]), (10, [1], [((.ofNat 0), []), (sL 0), (sL 4), ((.ofNat 0), []), ((.ofNat 0), [])]), (28, [], [(sL 0), (sL 4), (sL 1), ((.ofNat 1), []), ((.ofNat 0), []), (sL 5), (sL 6)]), (7, [1], [(sL 1), ((.ofNat 102), [])])]), 0, 0),
   ((8, [qtN 0 1 60, qtN 1 0 59], [((.ofNat 3), [(7, (.negSucc 0))]), ((.negSucc 2), [(7, (.ofNat 1))]), ((.ofNat 1), [(0, (.negSucc 0)), (1, (.ofNat 1))])], [qvK (.ofNat 104)], zh111, [(29, [], [(sL 0), (sL 4), (sL 1), ((.ofNat 3), [])]), (28, [], [(sL 0), (sL 4), (sL 1), ((.ofNat 104), [])]), (10, [1], [((.ofNat 0), []), (sL 0), (sL 4), ((.ofNat 0), []), ((.ofNat 0), [])]), (28, [], [(sL 0), (sL 4), (sL 1), ((.ofNat 1), []), ((.ofNat 0), []), (sL 5), (sL 6)]), (7, [1], [(sL 1), ((.ofNat 104), [])])]), 0, 0),
   ((9, [qtN 0 1 60, qtN 1 0 59, qtN 8 109 110], [((.ofNat 3), [(7, (.negSucc 0))]), ((.negSucc 2), [(7, (.ofNat 1))]), ((.ofNat 1), [(0, (.negSucc 0)), (1, (.ofNat 1))])], [qvS 8], zh111, [(29, [], [(sL 0), (sL 4), (sL 1), ((.ofNat 3), [])]), (28, [], [(sL 0), (sL 4), (sL 1), (sL 8)]), (10, [1], [((.ofNat 0), []), (sL 0), (sL 4), ((.ofNat 0), []), ((.ofNat 0), [])]), (28, [], [(sL 0), (sL 4), (sL 1), ((.ofNat 1), []), ((.ofNat 0), []), (sL 5), (sL 6)]), (7, [1], [(sL 1), (sL 8)])]), 0, 0),
   ((8, [qtN 0 1 60, qtN 1 0 59], [((.ofNat 3), [(7, (.negSucc 0))]), ((.negSucc 2), [(7, (.ofNat 1))]), ((.ofNat 1), [(0, (.negSucc 0)), (1, (.ofNat 1))])], [qvK (.ofNat 118)], zh111, [(29, [], [(sL 0), (sL 4), (sL 1), ((.ofNat 3), [])]), (28, [], [(sL 0), (sL 4), (sL 1), ((.ofNat 118), [])]), (10, [1], [((.ofNat 0), []), (sL 0), (sL 4), ((.ofNat 0), []), ((.ofNat 0), [])]), (28, [], [(sL 0), (sL 4), (sL 1), ((.ofNat 1), []), ((.ofNat 0), []), (sL 5), (sL 6)]), (7, [1], [(sL 1), ((.ofNat 118), [])])]), 0, 0),
   ((8, [qtN 0 1 60, qtN 1 0 59], [((.ofNat 8), [(7, (.negSucc 0))]), ((.negSucc 7), [(7, (.ofNat 1))]), ((.ofNat 1), [(0, (.negSucc 0)), (1, (.ofNat 1))])], [qvK (.ofNat 124)], zh111, [(29, [], [(sL 0), (sL 4), (sL 1), ((.ofNat 8), [])]), (28, [], [(sL 0), (sL 4), (sL 1), ((.ofNat 124), [])]), (10, [1], [((.ofNat 0), []), (sL 0), (sL 4), ((.ofNat 0), []), ((.ofNat 0), [])]), (28, [], [(sL 0), (sL 4), (sL 1), ((.ofNat 1), []), ((.ofNat 0), []), (sL 5), (sL 6)]), (7, [1], [(sL 1), ((.ofNat 124), [])])]), 0, 0)])
noncomputable def c40_106_e : List Ct := []
noncomputable def c40_106_p0 : PE := (10, [0], (8, [qtN 0 0 60, qtN 1 0 60, qtN 2 0 60, qtN 6 0 1, qtN 7 1 9], [((.ofNat 0), [(0, (.negSucc 0)), (1, (.ofNat 1))])], [qvR 0], zh111, [(10, [1], [((.ofNat 0), []), (sL 0), (sL 4), ((.ofNat 0), []), ((.ofNat 0), [])]), (28, [], [(sL 0), (sL 4), (sL 1), ((.ofNat 1), []), ((.ofNat 0), []), (sL 5), (sL 6)]), (29, [], [(sL 0), (sL 4), (sL 1), (sL 7)])]), symsL 8 0, some ((.ofNat 1), []), 0, 0)
noncomputable def c40_106_pts : List PE := [c40_106_p0]
set_option maxRecDepth 100000 in
theorem c40_106_k : enCtF c40_106 c40_106_e (pkP (c40_106_pts ++ []) [0]) (none) ((hOr (hThen (hChr 26 1) (hSpl 26)) (hOr (hCp 45) (hOr (hTok 45) (hEnd7 58)))), (mOr (mCL 29) (mCL 43)), 1024, 288274357220802560, 8) 3000 = true := by decide +kernel
set_option maxRecDepth 100000 in
theorem c40_106_k0 : ptCtF c40_106 c40_106_e (pkP (c40_106_pts ++ []) []) ((hOr (hThen (hChr 26 1) (hSpl 26)) (hOr (hCp 45) (hOr (hTok 45) (hEnd7 58)))), (mOr (mCL 29) (mCL 43)), 1024, 288274357220802560, 8) 3000 c40_106_p0 = true := by decide +kernel
set_option maxRecDepth 100000 in
theorem c40_106_v : ValidC PPk c40_106 := ct_ok fpk ⟨(hOr_ok (hThen_ok (hChr_ok 26 1) (hSpl_ok 26)) (hOr_ok (hCp_ok 45) (hOr_ok (hTok_ok 45) (hEnd7_ok 58)))), (mOr_ok (mCL_ok 29) (mCL_ok 43))⟩ (d := 0) (ext := []) (pts := c40_106_pts) (env := c40_106_e) rfl (fun _ h => (by cases h)) ext_nil (fun q h => (by cases h)) (enF c40_106_k) (List.forall_mem_cons.mpr ⟨⟨_, ptF c40_106_k0⟩, fun _ h => (by cases h)⟩)

noncomputable def c35_8 : Ct := (35, 72, (5, [qtN 0 0 60, qtN 1 0 60, qtN 2 0 60], [((.ofNat 0), [(0, (.negSucc 0)), (1, (.ofNat 1))])], [qvR 0, qvK (.ofNat 0)], zh119, [(10, [1], [((.ofNat 0), []), (sL 0), (sL 3), ((.ofNat 0), []), ((.ofNat 0), [])]), (28, [], [(sL 0), (sL 3), (sL 1), ((.ofNat 0), []), ((.ofNat 0), []), (sL 4), ((.ofNat 0), [])])]),
  [((14, (zt55 []), [((.ofNat 0), [(0, (.negSucc 0)), (6, (.ofNat 1))]), ((.ofNat 0), [(1, (.ofNat 1)), (6, (.negSucc 0))])], [], zh129, [(10, [1], [((.ofNat 0), []), (sL 0), (sL 3), ((.ofNat 0), []), ((.ofNat 0), [])]), (28, [], [(sL 0), (sL 3), (sL 5)]), (28, [], [(sL 0), (sL 3), (sL 8), (sL 9), (sL 10), (sL 11), (sL 12)]), (29, [], [(sL 0), (sL 3), (sL 8), (sL 13)])]), 0, 0),
   ((9, (zt23 []), [((.ofNat 1), [(0, (.negSucc 0)), (1, (.ofNat 1))]), ((.ofNat 0), [(0, (.negSucc 0)), (5, (.ofNat 1))]), ((.ofNat 0), [(1, (.ofNat 1)), (5, (.negSucc 0))]), ((.ofNat 1), [(1, (.ofNat 1)), (5, (.negSucc 0))])], [], zh120, [(29, [], [(sL 0), (sL 3), (sL 5), (sL 7)]), (10, [1], [((.ofNat 0), []), (sL 0), (sL 3), ((.ofNat 0), []), ((.ofNat 0), [])]), (28, [], [(sL 0), (sL 3), (sL 5), ((.ofNat 1), []), ((.ofNat 0), []), (sL 4), (sL 8)])]), 0, 0),
   ((8, [qtN 0 4 60, qtN 1 0 59, qtN 5 3 59, qtN 6 1 60, qtN 7 60 62], [((.ofNat 1), [(0, (.negSucc 0)), (1, (.ofNat 1))]), ((.ofNat 2), [(0, (.negSucc 0)), (1, (.ofNat 1))]), ((.ofNat 3), [(0, (.negSucc 0)), (1, (.ofNat 1))]), ((.ofNat 4), [(0, (.negSucc 0)), (1, (.ofNat 1))]), ((.ofNat 0), [(0, (.negSucc 0)), (5, (.ofNat 1))]), ((.ofNat 1), [(0, (.negSucc 0)), (5, (.ofNat 1))]), ((.ofNat 0), [(1, (.ofNat 1)), (5, (.negSucc 0))]), ((.ofNat 1), [(1, (.ofNat 1)), (5, (.negSucc 0))])], [], zh120, [(28, [], [(sL 0), (sL 3), (sL 5), (sL 7)]), (10, [1], [((.ofNat 0), []), (sL 0), (sL 3), ((.ofNat 0), []), ((.ofNat 0), [])]), (28, [], [(sL 0), (sL 3), (sL 5), ((.ofNat 1), []), ((.ofNat 0), []), (sL 4), ((.ofNat 1), [])]), (29, [], [(sL 0), (sL 3), (sL 5), ((.ofNat 10), [])])]), 0, 0)])
noncomputable def c35_8_e : List Ct := [c36_8, c40_104, c40_106, c40_9, c44_0]
noncomputable def c35_8_p0 : PE := (7, [0, 1, 2], (15, [qtN 0 0 60, qtN 1 0 60, qtN 2 0 60, qtN 5 0 59, qtN 6 1 910, qtN 7 0 60, qtN 8 0 60, qtN 9 0 60, qtN 10 0 1, qtN 11 0 8, qtN 13 0 1, qtN 14 1 13], [((.ofNat 0), [(0, (.negSucc 0)), (1, (.ofNat 1))]), ((.ofNat 0), [(0, (.negSucc 0)), (7, (.ofNat 1))]), ((.ofNat 0), [(1, (.ofNat 1)), (7, (.negSucc 0))]), ((.ofNat 0), [(5, (.ofNat 1)), (7, (.negSucc 0))])], [qvR 0, qvK (.ofNat 0), qvS 5], zh136, [(10, [1], [((.ofNat 0), []), (sL 0), (sL 3), ((.ofNat 0), []), ((.ofNat 0), [])]), (28, [], [(sL 0), (sL 3), (sL 6)]), (28, [], [(sL 0), (sL 3), (sL 9), (sL 10), (sL 11), (sL 12), (sL 13)]), (29, [], [(sL 0), (sL 3), (sL 9), (sL 14)])]), symsL 5 0, some ((.ofNat 119), [(5, (.negSucc 0))]), 0, 0)
noncomputable def c35_8_p1 : PE := (7, [0, 1, 2], (10, [qtN 0 1 60, qtN 1 0 59, qtN 2 0 60, qtN 5 0 59, qtN 6 1 60, qtN 7 1 60, qtN 8 1 9, qtN 9 0 1], [((.ofNat 1), [(0, (.negSucc 0)), (1, (.ofNat 1))]), ((.ofNat 0), [(0, (.negSucc 0)), (1, (.ofNat 1))]), ((.ofNat 0), [(0, (.negSucc 0)), (6, (.ofNat 1))]), ((.ofNat 0), [(1, (.ofNat 1)), (6, (.negSucc 0))]), ((.ofNat 1), [(1, (.ofNat 1)), (6, (.negSucc 0))]), ((.ofNat 1), [(5, (.ofNat 1)), (6, (.negSucc 0))]), ((.ofNat 0), [(5, (.ofNat 1)), (6, (.negSucc 0))])], [qvR 0, qvK (.ofNat 0), qvS 5], zh123, [(29, [], [(sL 0), (sL 3), (sL 6), (sL 8)]), (10, [1], [((.ofNat 0), []), (sL 0), (sL 3), ((.ofNat 0), []), ((.ofNat 0), [])]), (28, [], [(sL 0), (sL 3), (sL 6), ((.ofNat 1), []), ((.ofNat 0), []), (sL 4), (sL 9)])]), symsL 5 0, some ((.ofNat 119), [(5, (.negSucc 0))]), 0, 0)
noncomputable def c35_8_p2 : PE := (7, [0, 1, 2], (9, [qtN 0 4 60, qtN 1 0 59, qtN 2 0 60, qtN 5 0 59, qtN 6 3 59, qtN 7 1 60, qtN 8 60 62], [((.ofNat 1), [(0, (.negSucc 0)), (1, (.ofNat 1))]), ((.ofNat 2), [(0, (.negSucc 0)), (1, (.ofNat 1))]), ((.ofNat 3), [(0, (.negSucc 0)), (1, (.ofNat 1))]), ((.ofNat 4), [(0, (.negSucc 0)), (1, (.ofNat 1))]), ((.ofNat 0), [(0, (.negSucc 0)), (1, (.ofNat 1))]), ((.ofNat 0), [(0, (.negSucc 0)), (6, (.ofNat 1))]), ((.ofNat 1), [(0, (.negSucc 0)), (6, (.ofNat 1))]), ((.ofNat 0), [(1, (.ofNat 1)), (6, (.negSucc 0))]), ((.ofNat 1), [(1, (.ofNat 1)), (6, (.negSucc 0))]), ((.ofNat 1), [(5, (.ofNat 1)), (6, (.negSucc 0))]), ((.ofNat 0), [(5, (.ofNat 1)), (6, (.negSucc 0))])], [qvR 0, qvK (.ofNat 0), qvS 5], zh123, [(29, [], [(sL 0), (sL 3), (sL 6), ((.ofNat 10), [])]), (28, [], [(sL 0), (sL 3), (sL 6), (sL 8)]), (10, [1], [((.ofNat 0), []), (sL 0), (sL 3), ((.ofNat 0), []), ((.ofNat 0), [])]), (28, [], [(sL 0), (sL 3), (sL 6), ((.ofNat 1), []), ((.ofNat 0), []), (sL 4), ((.ofNat 1), [])])]), symsL 5 0, some ((.ofNat 119), [(5, (.negSucc 0))]), 0, 0)
noncomputable def c35_8_pts : List PE := [c35_8_p0, c35_8_p1, c35_8_p2]
set_option maxRecDepth 100000 in
theorem c35_8_k : enCtF c35_8 c35_8_e (pkP (c35_8_pts ++ []) [0, 1, 2]) (none) ((hOr (hCp 22) (hOr (hTok 32) (hOr (hSl 17 2) (hOr (hSl 37 2) (hOr (hEnd7 49) (hOr (hSs 7 1) (hOr (hSs 19 1) (hSs 38 1)))))))), noM, 128, 563366570098816, 5) 3000 = true := by decide +kernel
set_option maxRecDepth 100000 in
theorem c35_8_k0 : ptCtF c35_8 c35_8_e (pkP (c35_8_pts ++ []) []) ((hOr (hCp 22) (hOr (hTok 32) (hOr (hSl 17 2) (hOr (hSl 37 2) (hOr (hEnd7 49) (hOr (hSs 7 1) (hOr (hSs 19 1) (hSs 38 1)))))))), noM, 128, 563366570098816, 5) 3000 c35_8_p0 = true := by decide +kernel
set_option maxRecDepth 100000 in
theorem c35_8_k1 : ptCtF c35_8 c35_8_e (pkP (c35_8_pts ++ []) [0, 1, 2]) ((hOr (hCp 22) (hOr (hTok 32) (hOr (hSl 17 2) (hOr (hSl 37 2) (hOr (hEnd7 49) (hOr (hSs 7 1) (hOr (hSs 19 1) (hSs 38 1)))))))), noM, 128, 563366570098816, 5) 3000 c35_8_p1 = true := by decide +kernel
set_option maxRecDepth 100000 in
theorem c35_8_k2 : ptCtF c35_8 c35_8_e (pkP (c35_8_pts ++ []) []) ((hOr (hCp 22) (hOr (hTok 32) (hOr (hSl 17 2) (hOr (hSl 37 2) (hOr (hEnd7 49) (hOr (hSs 7 1) (hOr (hSs 19 1) (hSs 38 1)))))))), noM, 128, 563366570098816, 5) 3000 c35_8_p2 = true := by decide +kernel
set_option maxRecDepth 100000 in
theorem c35_8_v : ValidC PPk c35_8 := ct_ok fpk ⟨(hOr_ok (hCp_ok 22) (hOr_ok (hTok_ok 32) (hOr_ok (hSl_ok 17 2) (hOr_ok (hSl_ok 37 2) (hOr_ok (hEnd7_ok 49) (hOr_ok (hSs_ok 7 1) (hOr_ok (hSs_ok 19 1) (hSs_ok 38 1)))))))), noM_ok⟩ (d := 71) (ext := []) (pts := c35_8_pts) (env := c35_8_e) rfl (List.forall_mem_cons.mpr ⟨⟨c36_8_v, Nat.le_of_ble_eq_true rfl⟩, List.forall_mem_cons.mpr ⟨⟨c40_104_v, Nat.le_of_ble_eq_true rfl⟩, List.forall_mem_cons.mpr ⟨⟨c40_106_v, Nat.le_of_ble_eq_true rfl⟩, List.forall_mem_cons.mpr ⟨⟨c40_9_v, Nat.le_of_ble_eq_true rfl⟩, List.forall_mem_cons.mpr ⟨⟨c44_0_v, Nat.le_of_ble_eq_true rfl⟩, fun _ h => (by cases h)⟩⟩⟩⟩⟩) ext_nil (fun q h => (by cases h)) (enF c35_8_k) (List.forall_mem_cons.mpr ⟨⟨_, ptF c35_8_k0⟩, List.forall_mem_cons.mpr ⟨⟨_, ptF c35_8_k1⟩, List.forall_mem_cons.mpr ⟨⟨_, ptF c35_8_k2⟩, fun _ h => (by cases h)⟩⟩⟩)

noncomputable def c40_107 : Ct := (40, 1, (8, [qtN 0 0 60, qtN 1 0 60, qtN 2 0 60, qtN 6 0 1, qtN 7 1 8], [((.ofNat 0), [(0, (.negSucc 0)), (1, (.ofNat 1))])], [qvR 0], zh111, [(10, [1], [((.ofNat 0), []), (sL 0), (sL 4), ((.ofNat 0), []), ((.ofNat 0), [])]), (28, [], [(sL 0), (sL 4), (sL 1), ((.ofNat 1), []), ((.ofNat 0), []), (sL 5), (sL 6)]), (29, [], [(sL 0), (sL 4), (sL 1), (sL 7)])]),
  [((8, [], [((.ofNat 7), [(7, (.negSucc 0))]), ((.negSucc 6), [(7, (.ofNat 1))]), ((.ofNat 0), [(0, (.ofNat 1)), (1, (.negSucc 0))])], [qvK (.negSucc 0)], zh111, [(29, [], [(sL 0), (sL 4), (sL 1), ((.ofNat 7), [])]), (10, [1], [((.ofNat 0), []), (sL 0), (sL 4), ((.ofNat 0), []), ((.ofNat 0), [])]), (28, [], [(sL 0), (sL 4), (sL 1), ((.ofNat 1), []), ((.ofNat 0), []), (sL 5), (sL 6)])]), 0, 0),
   ((9, [qtN 0 1 60, qtN 1 0 59, qtN 8 0 127], [((.ofNat 1), [(7, (.negSucc 0))]), ((.negSucc 0), [(7, (.ofNat 1))]), ((.ofNat 1), [(0, (.negSucc 0)), (1, (.ofNat 1))])], [qvS 8], zh111, [(29, [], [(sL 0), (sL 4), (sL 1), ((.ofNat 1), [])]), (28, [], [(sL 0), (sL 4), (sL 1), (sL 8)]), (10, [1], [((.ofNat 0), []), (sL 0), (sL 4), ((.ofNat 0), []), ((.ofNat 0), [])]), (28, [], [(sL 0), (sL 4), (sL 1), ((.ofNat 1), []), ((.ofNat 0), []), (sL 5), (sL 6)]), (7, [1], [(sL 1), (sL 8)])]), 0, 0),
   ((8, [qtN 0 1 60, qtN 1 0 59], [((.ofNat 6), [(7, (.negSucc 0))]), ((.negSucc 5), [(7, (.ofNat 1))]), ((.ofNat 1), [(0, (.negSucc 0)), (1, (.ofNat 1))])], [qvK (.ofNat 33)], zh111, [(29, [], [(sL 0), (sL 4), (sL 1), ((.ofNat 6), [])]), (28, [], [(sL 0), (sL 4), (sL 1), ((.ofNat 33), [])]), (10, [1], [((.ofNat 0), []), (sL 0), (sL 4), ((.ofNat 0), []), ((.ofNat 0), [])]), (28, [], [(sL 0), (sL 4), (sL 1), ((.ofNat 1), []), ((.ofNat 0), []), (sL 5), (sL 6)]), (7, [1], [(sL 1), ((.ofNat 33), [])])]), 0, 0),
   ((8, [qtN 0 1 60, qtN 1 0 59], [((.ofNat 4), [(7, (.negSucc 0))]), ((.negSucc 3), [(7, (.ofNat 1))]), ((.ofNat 1), [(0, (.negSucc 0)), (1, (.ofNat 1))])], [qvK (.ofNat 40)], zh111, [(29, [], [(sL 0), (sL 4), (sL 1), ((.ofNat 4), [])]), (28, [], [(sL 0), (sL 4), (sL 1), ((.ofNat 40), [])]), (10, [1], [((.ofNat 0), []), (sL 0), (sL 4), ((.ofNat 0), []), ((.ofNat 0), [])]), (28, [], [(sL 0), (sL 4), (sL 1), ((.ofNat 1), []), ((.ofNat 0), []), (sL 5), (sL 6)]), (7, [1], [(sL 1), ((.ofNat 40), [])])]), 0, 0),
   ((8, [qtN 0 1 60, qtN 1 0 59], [((.ofNat 5), [(7, (.negSucc 0))]), ((.negSucc 4), [(7, (.ofNat 1))]), ((.ofNat 1), [(0, (.negSucc 0)), (1, (.ofNat 1))])], [qvK (.ofNat 41)], zh111, [(29, [], [(sL 0), (sL 4), (sL 1), ((.ofNat 5), [])]), (28, [], [(sL 0), (sL 4), (sL 1), ((.ofNat 41), [])]), (10, [1], [((.ofNat 0), []), (sL 0), (sL 4), ((.ofNat 0), []), ((.ofNat 0), [])]), (28, [], [(sL 0), (sL 4), (sL 1), ((.ofNat 1), []), ((.ofNat 0), []), (sL 5), (sL 6)]), (7, [1], [(sL 1), ((.ofNat 41), [])])]), 0, 0),
   ((9, [qtN 0 1 60, qtN 1 0 59, qtN 8 48 57], [((.ofNat 2), [(7, (.negSucc 0))]), ((.negSucc 1), [(7, (.ofNat 1))]), ((.ofNat 1), [(0, (.negSucc 0)), (1, (.ofNat 1))])], [qvS 8], zh111, [(29, [], [(sL 0), (sL 4), (sL 1), ((.ofNat 2), [])]), (28, [], [(sL 0), (sL 4), (sL 1), (sL 8)]), (10, [1], [((.ofNat 0), []), (sL 0), (sL 4), ((.ofNat 0), []), ((.ofNat 0), [])]), (28, [], [(sL 0), (sL 4), (sL 1), ((.ofNat 1), []), ((.ofNat 0), []), (sL 5), (sL 6)]), (7, [1], [(sL 1), (sL 8)])]), 0, 0),
   ((8, [qtN 0 1 60, qtN 1 0 59], [((.ofNat 3), [(7, (.negSucc 0))]), ((.negSucc 2), [(7, (.ofNat 1))]), ((.ofNat 1), [(0, (.negSucc 0)), (1, (.ofNat 1))])], [qvK (.ofNat 100)], zh111, [(29, [], [(sL 0), (sL 4), (sL 1), ((.ofNat 3), [])]), (28, [], [(sL 0), (sL 4), (sL 1), ((.ofNat 100), [])]), (10, [1], [((.ofNat 0), []), (sL 0), (sL 4), ((.ofNat 0), []), ((.ofNat 0), [])]), (28, [], [(sL 0), (sL 4), (sL 1), ((.ofNat 1), []), ((.ofNat 0), []), (sL 5), (sL 6)]), (7, [1], [(sL 1), ((.ofNat 100), [])])]), 0, 0),
   ((8, [qtN 0 1 60, qtN 1 0 59], [((.ofNat 3), [(7, (.negSucc 0))]), ((.negSucc 2), [(7, (.ofNat 1))]), ((.ofNat 1), [(0, (.negSucc 0)), (1, (.ofNat 1))])], [qvK (.ofNat 102)], zh111, [(29, [], [(sL 0), (sL 4), (sL 1), ((.ofNat 3), [])]), (28, [], [(sL 0), (sL 4), (sL 1), ((.ofNat 102), [])]), (10, [1], [((.ofNat 0), []), (sL 0), (sL 4), ((.ofNat 0), []), ((.ofNat 0), [])]), (28, [], [(sL 0), (sL 4), (sL 1), ((.ofNat 1), []), ((.ofNat 0), []), (sL 5), (sL 6)]), (7, [1], [(sL 1), ((.ofNat 102), [])])]), 0, 0),
   ((8, [qtN 0 1 60, qtN 1 0 59], [((.ofNat 3), [(7, (.negSucc 0))]), ((.negSucc 2), [(7, (.ofNat 1))]), ((.ofNat 1), [(0, (.negSucc 0)), (1, (.ofNat 1))])], [qvK (.ofNat 104)], zh111, [(29, [], [(sL 0), (sL 4), (sL 1), ((.ofNat 3), [])]), (28, [], [(sL 0), (sL 4), (sL 1), ((.ofNat 104), [])]), (10, [1], [((.ofNat 0), []), (sL 0), (sL 4), ((.ofNat 0), []), ((.ofNat 0), [])]), (28, [], [(sL 0), (sL 4), (sL 1), ((.ofNat 1), []), ((.ofNat 0), []), (sL 5), (sL 6)]), (7, [1], [(sL 1), ((.ofNat 104), [])])]), 0, 0),
   ((9, [qtN 0 1 60, qtN 1 0 59, qtN 8 109 110], [((.ofNat 3), [(7, (.negSucc 0))]), ((.negSucc 2), [(7, (.ofNat 1))]), ((.ofNat 1), [(0, (.negSucc 0)), (1, (.ofNat 1))])], [qvS 8], zh111, [(29, [], [(sL 0), (sL 4), (sL 1), ((.ofNat 3), [])]), (28, [], [(sL 0), (sL 4), (sL 1), (sL 8)]), (10, [1], [((.ofNat 0), []), (sL 0), (sL 4), ((.ofNat 0), []), ((.ofNat 0), [])]), (28, [], [(sL 0), (sL 4), (sL 1), ((.ofNat 1), []), ((.ofNat 0), []), (sL 5), (sL 6)]), (7, [1], [(sL 1), (sL 8)])]), 0, 0),
   ((8, [qtN 0 1 60, qtN 1 0 59], [((.ofNat 3), [(7, (.negSucc 0))]), ((.negSucc 2), [(7, (.ofNat 1))]), ((.ofNat 1), [(0, (.negSucc 0)), (1, (.ofNat 1))])], [qvK (.ofNat 118)], zh111, [(29, [], [(sL 0), (sL 4), (sL 1), ((.ofNat 3), [])]), (28, [], [(sL 0), (sL 4), (sL 1), ((.ofNat 118), [])]), (10, [1], [((.ofNat 0), []), (sL 0), (sL 4), ((.ofNat 0), []), ((.ofNat 0), [])]), (28, [], [(sL 0), (sL 4), (sL 1), ((.ofNat 1), []), ((.ofNat 0), []), (sL 5), (sL 6)]), (7, [1], [(sL 1), ((.ofNat 118), [])])]), 0, 0),
   ((8, [qtN 0 1 60, qtN 1 0 59], [((.ofNat 8), [(7, (.negSucc 0))]), ((.negSucc 7), [(7, (.ofNat 1))]), ((.ofNat 1), [(0, (.negSucc 0)), (1, (.ofNat 1))])], [qvK (.ofNat 124)], zh111, [(29, [], [(sL 0), (sL 4), (sL 1), ((.ofNat 8), [])]), (28, [], [(sL 0), (sL 4), (sL 1), ((.ofNat 124), [])]), (10, [1], [((.ofNat 0), []), (sL 0), (sL 4), ((.ofNat 0), []), ((.ofNat 0), [])]), (28, [], [(sL 0), (sL 4), (sL 1), ((.ofNat 1), []), ((.ofNat 0), []), (sL 5), (sL 6)]), (7, [1], [(sL 1), ((.ofNat 124), [])])]), 0, 0)])
noncomputable def c40_107_e : List Ct := []
noncomputable def c40_107_p0 : PE := (10, [0], (8, [qtN 0 0 60, qtN 1 0 60, qtN 2 0 60, qtN 6 0 1, qtN 7 1 8], [((.ofNat 0), [(0, (.negSucc 0)), (1, (.ofNat 1))])], [qvR 0], zh111, [(10, [1], [((.ofNat 0), []), (sL 0), (sL 4), ((.ofNat 0), []), ((.ofNat 0), [])]), (28, [], [(sL 0), (sL 4), (sL 1), ((.ofNat 1), []), ((.ofNat 0), []), (sL 5), (sL 6)]), (29, [], [(sL 0), (sL 4), (sL 1), (sL 7)])]), symsL 8 0, some ((.ofNat 1), []), 0, 0)
noncomputable def c40_107_pts : List PE := [c40_107_p0]
set_option maxRecDepth 100000 in
theorem c40_107_k : enCtF c40_107 c40_107_e (pkP (c40_107_pts ++ []) [0]) (none) ((hOr (hThen (hChr 26 1) (hSpl 26)) (hOr (hCp 45) (hOr (hTok 45) (hEnd7 58)))), (mOr (mCL 29) (mCL 43)), 1024, 288274357220802560, 8) 3000 = true := by decide +kernel
set_option maxRecDepth 100000 in
theorem c40_107_k0 : ptCtF c40_107 c40_107_e (pkP (c40_107_pts ++ []) []) ((hOr (hThen (hChr 26 1) (hSpl 26)) (hOr (hCp 45) (hOr (hTok 45) (hEnd7 58)))), (mOr (mCL 29) (mCL 43)), 1024, 288274357220802560, 8) 3000 c40_107_p0 = true := by decide +kernel
set_option maxRecDepth 100000 in
theorem c40_107_v : ValidC PPk c40_107 := ct_ok fpk ⟨(hOr_ok (hThen_ok (hChr_ok 26 1) (hSpl_ok 26)) (hOr_ok (hCp_ok 45) (hOr_ok (hTok_ok 45) (hEnd7_ok 58)))), (mOr_ok (mCL_ok 29) (mCL_ok 43))⟩ (d := 0) (ext := []) (pts := c40_107_pts) (env := c40_107_e) rfl (fun _ h => (by cases h)) ext_nil (fun q h => (by cases h)) (enF c40_107_k) (List.forall_mem_cons.mpr ⟨⟨_, ptF c40_107_k0⟩, fun _ h => (by cases h)⟩)

noncomputable def c34_8 : Ct := (34, 73, (5, [qtN 0 0 60, qtN 1 0 60, qtN 2 0 60], [((.ofNat 0), [(0, (.negSucc 0)), (1, (.ofNat 1))])], [qvR 0, qvK (.ofNat 0)], zh119, [(10, [1], [((.ofNat 0), []), (sL 0), (sL 3), ((.ofNat 0), []), ((.ofNat 0), [])]), (28, [], [(sL 0), (sL 3), (sL 1), ((.ofNat 0), []), ((.ofNat 0), []), (sL 4), ((.ofNat 0), [])])]),
  [((14, (zt55 []), [((.ofNat 0), [(0, (.negSucc 0)), (6, (.ofNat 1))]), ((.ofNat 0), [(1, (.ofNat 1)), (6, (.negSucc 0))])], [], zh129, [(10, [1], [((.ofNat 0), []), (sL 0), (sL 3), ((.ofNat 0), []), ((.ofNat 0), [])]), (28, [], [(sL 0), (sL 3), (sL 5)]), (28, [], [(sL 0), (sL 3), (sL 8), (sL 9), (sL 10), (sL 11), (sL 12)]), (29, [], [(sL 0), (sL 3), (sL 8), (sL 13)])]), 0, 0),
   ((9, (zt24 []), [((.ofNat 1), [(0, (.negSucc 0)), (1, (.ofNat 1))]), ((.ofNat 0), [(0, (.negSucc 0)), (5, (.ofNat 1))]), ((.ofNat 0), [(1, (.ofNat 1)), (5, (.negSucc 0))]), ((.ofNat 1), [(1, (.ofNat 1)), (5, (.negSucc 0))])], [], zh120, [(29, [], [(sL 0), (sL 3), (sL 5), (sL 7)]), (10, [1], [((.ofNat 0), []), (sL 0), (sL 3), ((.ofNat 0), []), ((.ofNat 0), [])]), (28, [], [(sL 0), (sL 3), (sL 5), ((.ofNat 1), []), ((.ofNat 0), []), (sL 4), (sL 8)])]), 0, 0),
   ((8, [qtN 0 4 60, qtN 1 0 59, qtN 5 3 59, qtN 6 1 60, qtN 7 60 62], [((.ofNat 1), [(0, (.negSucc 0)), (1, (.ofNat 1))]), ((.ofNat 2), [(0, (.negSucc 0)), (1, (.ofNat 1))]), ((.ofNat 4), [(0, (.negSucc 0)), (1, (.ofNat 1))]), ((.ofNat 3), [(0, (.negSucc 0)), (1, (.ofNat 1))]), ((.ofNat 0), [(0, (.negSucc 0)), (5, (.ofNat 1))]), ((.ofNat 1), [(0, (.negSucc 0)), (5, (.ofNat 1))]), ((.ofNat 0), [(1, (.ofNat 1)), (5, (.negSucc 0))]), ((.ofNat 1), [(1, (.ofNat 1)), (5, (.negSucc 0))])], [], zh120, [(28, [], [(sL 0), (sL 3), (sL 5), (sL 7)]), (10, [1], [((.ofNat 0), []), (sL 0), (sL 3), ((.ofNat 0), []), ((.ofNat 0), [])]), (28, [], [(sL 0), (sL 3), (sL 5), ((.ofNat 1), []), ((.ofNat 0), []), (sL 4), ((.ofNat 1), [])]), (29, [], [(sL 0), (sL 3), (sL 5), ((.ofNat 10), [])])]), 0, 0)])
noncomputable def c34_8_e : List Ct := [c35_8, c40_104, c40_106, c40_107, c40_9, c44_0]
noncomputable def c34_8_p0 : PE := (7, [0, 1, 2], (15, [qtN 0 0 60, qtN 1 0 60, qtN 2 0 60, qtN 5 0 59, qtN 6 1 910, qtN 7 0 60, qtN 8 0 60, qtN 9 0 60, qtN 10 0 1, qtN 11 0 8, qtN 13 0 1, qtN 14 1 13], [((.ofNat 0), [(0, (.negSucc 0)), (1, (.ofNat 1))]), ((.ofNat 0), [(0, (.negSucc 0)), (7, (.ofNat 1))]), ((.ofNat 0), [(1, (.ofNat 1)), (7, (.negSucc 0))]), ((.ofNat 0), [(5, (.ofNat 1)), (7, (.negSucc 0))])], [qvR 0, qvK (.ofNat 0), qvS 5], zh136, [(10, [1], [((.ofNat 0), []), (sL 0), (sL 3), ((.ofNat 0), []), ((.ofNat 0), [])]), (28, [], [(sL 0), (sL 3), (sL 6)]), (28, [], [(sL 0), (sL 3), (sL 9), (sL 10), (sL 11), (sL 12), (sL 13)]), (29, [], [(sL 0), (sL 3), (sL 9), (sL 14)])]), symsL 5 0, some ((.ofNat 119), [(5, (.negSucc 0))]), 0, 0)
noncomputable def c34_8_p1 : PE := (7, [0, 1, 2], (10, [qtN 0 1 60, qtN 1 0 59, qtN 2 0 60, qtN 5 0 59, qtN 6 1 60, qtN 7 1 60, qtN 8 1 8, qtN 9 0 1], [((.ofNat 1), [(0, (.negSucc 0)), (1, (.ofNat 1))]), ((.ofNat 0), [(0, (.negSucc 0)), (1, (.ofNat 1))]), ((.ofNat 0), [(0, (.negSucc 0)), (6, (.ofNat 1))]), ((.ofNat 0), [(1, (.ofNat 1)), (6, (.negSucc 0))]), ((.ofNat 1), [(1, (.ofNat 1)), (6, (.negSucc 0))]), ((.ofNat 1), [(5, (.ofNat 1)), (6, (.negSucc 0))]), ((.ofNat 0), [(5, (.ofNat 1)), (6, (.negSucc 0))])], [qvR 0, qvK (.ofNat 0), qvS 5], zh123, [(29, [], [(sL 0), (sL 3), (sL 6), (sL 8)]), (10, [1], [((.ofNat 0), []), (sL 0), (sL 3), ((.ofNat 0), []), ((.ofNat 0), [])]), (28, [], [(sL 0), (sL 3), (sL 6), ((.ofNat 1), []), ((.ofNat 0), []), (sL 4), (sL 9)])]), symsL 5 0, some ((.ofNat 119), [(5, (.negSucc 0))]), 0, 0)
noncomputable def c34_8_p2 : PE := (7, [0, 1, 2], (9, [qtN 0 4 60, qtN 1 0 59, qtN 2 0 60, qtN 5 0 59, qtN 6 3 59, qtN 7 1 60, qtN 8 60 62], [((.ofNat 4), [(0, (.negSucc 0)), (1, (.ofNat 1))]), ((.ofNat 3), [(0, (.negSucc 0)), (1, (.ofNat 1))]), ((.ofNat 2), [(0, (.negSucc 0)), (1, (.ofNat 1))]), ((.ofNat 1), [(0, (.negSucc 0)), (1, (.ofNat 1))]), ((.ofNat 0), [(0, (.negSucc 0)), (1, (.ofNat 1))]), ((.ofNat 0), [(0, (.negSucc 0)), (6, (.ofNat 1))]), ((.ofNat 1), [(0, (.negSucc 0)), (6, (.ofNat 1))]), ((.ofNat 0), [(1, (.ofNat 1)), (6, (.negSucc 0))]), ((.ofNat 1), [(1, (.ofNat 1)), (6, (.negSucc 0))]), ((.ofNat 1), [(5, (.ofNat 1)), (6, (.negSucc 0))]), ((.ofNat 0), [(5, (.ofNat 1)), (6, (.negSucc 0))])], [qvR 0, qvK (.ofNat 0), qvS 5], zh123, [(28, [], [(sL 0), (sL 3), (sL 6), (sL 8)]), (10, [1], [((.ofNat 0), []), (sL 0), (sL 3), ((.ofNat 0), []), ((.ofNat 0), [])]), (28, [], [(sL 0), (sL 3), (sL 6), ((.ofNat 1), []), ((.ofNat 0), []), (sL 4), ((.ofNat 1), [])]), (29, [], [(sL 0), (sL 3), (sL 6), ((.ofNat 10), [])])]), symsL 5 0, some ((.ofNat 119), [(5, (.negSucc 0))]), 0, 0)
noncomputable def c34_8_pts : List PE := [c34_8_p0, c34_8_p1, c34_8_p2]
set_option maxRecDepth 100000 in
theorem c34_8_k : enCtF c34_8 c34_8_e (pkP (c34_8_pts ++ []) [0, 1, 2]) (none) ((hOr (hCp 22) (hOr (hTok 32) (hOr (hSl 17 2) (hOr (hSl 37 2) (hOr (hEnd7 49) (hOr (hSs 7 1) (hOr (hSs 19 1) (hSs 38 1)))))))), noM, 128, 563366570098816, 5) 3000 = true := by decide +kernel
set_option maxRecDepth 100000 in
theorem c34_8_k0 : ptCtF c34_8 c34_8_e (pkP (c34_8_pts ++ []) []) ((hOr (hCp 22) (hOr (hTok 32) (hOr (hSl 17 2) (hOr (hSl 37 2) (hOr (hEnd7 49) (hOr (hSs 7 1) (hOr (hSs 19 1) (hSs 38 1)))))))), noM, 128, 563366570098816, 5) 3000 c34_8_p0 = true := by decide +kernel
set_option maxRecDepth 100000 in
theorem c34_8_k1 : ptCtF c34_8 c34_8_e (pkP (c34_8_pts ++ []) [0, 1, 2]) ((hOr (hCp 22) (hOr (hTok 32) (hOr (hSl 17 2) (hOr (hSl 37 2) (hOr (hEnd7 49) (hOr (hSs 7 1) (hOr (hSs 19 1) (hSs 38 1)))))))), noM, 128, 563366570098816, 5) 3000 c34_8_p1 = true := by decide +kernel
set_option maxRecDepth 100000 in
theorem c34_8_k2 : ptCtF c34_8 c34_8_e (pkP (c34_8_pts ++ []) []) ((hOr (hCp 22) (hOr (hTok 32) (hOr (hSl 17 2) (hOr (hSl 37 2) (hOr (hEnd7 49) (hOr (hSs 7 1) (hOr (hSs 19 1) (hSs 38 1)))))))), noM, 128, 563366570098816, 5) 3000 c34_8_p2 = true := by decide +kernel
set_option maxRecDepth 100000 in
theorem c34_8_v : ValidC PPk c34_8 := ct_ok fpk ⟨(hOr_ok (hCp_ok 22) (hOr_ok (hTok_ok 32) (hOr_ok (hSl_ok 17 2) (hOr_ok (hSl_ok 37 2) (hOr_ok (hEnd7_ok 49) (hOr_ok (hSs_ok 7 1) (hOr_ok (hSs_ok 19 1) (hSs_ok 38 1)))))))), noM_ok⟩ (d := 72) (ext := []) (pts := c34_8_pts) (env := c34_8_e) rfl (List.forall_mem_cons.mpr ⟨⟨c35_8_v, Nat.le_of_ble_eq_true rfl⟩, List.forall_mem_cons.mpr ⟨⟨c40_104_v, Nat.le_of_ble_eq_true rfl⟩, List.forall_mem_cons.mpr ⟨⟨c40_106_v, Nat.le_of_ble_eq_true rfl⟩, List.forall_mem_cons.mpr ⟨⟨c40_107_v, Nat.le_of_ble_eq_true rfl⟩, List.forall_mem_cons.mpr ⟨⟨c40_9_v, Nat.le_of_ble_eq_true rfl⟩, List.forall_mem_cons.mpr ⟨⟨c44_0_v, Nat.le_of_ble_eq_true rfl⟩, fun _ h => (by cases h)⟩⟩⟩⟩⟩⟩) ext_nil (fun q h => (by cases h)) (enF c34_8_k) (List.forall_mem_cons.mpr ⟨⟨_, ptF c34_8_k0⟩, List.forall_mem_cons.mpr ⟨⟨_, ptF c34_8_k1⟩, List.forall_mem_cons.mpr ⟨⟨_, ptF c34_8_k2⟩, fun _ h => (by cases h)⟩⟩⟩)

noncomputable def zh137 : AH := [zc118, qiC 2 [qgN 60 0 127], qiC 0 [qgA 60], qjC 1 60]
noncomputable def c33_0 : Ct := (33, 74, (5, [qtN 0 0 60, (1, (.negSucc 0), (.ofNat 100000)), qtN 2 0 60, qtN 3 0 60], [], [qvR 0], zh137, [(10, [1], [((.ofNat 0), []), (sL 0), (sL 4), ((.ofNat 0), []), ((.ofNat 0), [])])]),
  [((14, (zt55 []), [], [], zh129, [(10, [1], [((.ofNat 0), []), (sL 0), (sL 4), ((.ofNat 0), []), ((.ofNat 0), [])]), (28, [], [(sL 0), (sL 4), (sL 5)]), (28, [], [(sL 0), (sL 4), (sL 8), (sL 9), (sL 10), (sL 11), (sL 12)]), (29, [], [(sL 0), (sL 4), (sL 8), (sL 13)])]), 0, 0),
   ((9, [qtN 0 1 60, qtN 5 1 60, qtN 6 1 60, qtN 7 1 7, qtN 8 0 1], [((.ofNat 0), [(0, (.ofNat 1)), (5, (.negSucc 0))]), ((.ofNat 0), [(0, (.negSucc 0)), (5, (.ofNat 1))])], [], zh120, [(28, [], [(sL 0), (sL 4), ((.negSucc 0), [])]), (29, [], [(sL 0), (sL 4), (sL 5), (sL 7)]), (10, [1], [((.ofNat 0), []), (sL 0), (sL 4), ((.ofNat 0), []), ((.ofNat 0), [])]), (28, [], [(sL 0), (sL 4), (sL 5), ((.ofNat 1), []), ((.ofNat 0), []), ((.ofNat 0), []), (sL 8)])]), 0, 0)])
noncomputable def c33_0_e : List Ct := [c34_8, c43_0, c43_3]
noncomputable def c33_0_pts : List PE := []
set_option maxRecDepth 100000 in
theorem c33_0_k : enCtF c33_0 c33_0_e (pkP (c33_0_pts ++ []) []) (none) ((hOr (hBeg 15 1) (hOr (hKls 31) (hOr (hTok 32) (hEnd 40 0)))), noM, 0, 1105954111488, 5) 3000 = true := by decide +kernel
set_option maxRecDepth 100000 in
theorem c33_0_v : ValidC PPk c33_0 := ct_ok fpk ⟨(hOr_ok (hBeg_ok 15 1) (hOr_ok (hKls_ok 31) (hOr_ok (hTok_ok 32) (hEnd_ok 40 0)))), noM_ok⟩ (d := 73) (ext := []) (pts := c33_0_pts) (env := c33_0_e) rfl (List.forall_mem_cons.mpr ⟨⟨c34_8_v, Nat.le_of_ble_eq_true rfl⟩, List.forall_mem_cons.mpr ⟨⟨c43_0_v, Nat.le_of_ble_eq_true rfl⟩, List.forall_mem_cons.mpr ⟨⟨c43_3_v, Nat.le_of_ble_eq_true rfl⟩, fun _ h => (by cases h)⟩⟩⟩) ext_nil (fun q h => (by cases h)) (enF c33_0_k) (fun _ h => (by cases h))

noncomputable def c32_0 : Ct := (32, 75, (6, [qtN 0 0 60, (1, (.negSucc 0), (.ofNat 100000)), qtN 2 0 60, qtN 3 0 60, qtN 4 0 127], [], [qvR 0, qvS 4], zh137, [(10, [1], [((.ofNat 0), []), (sL 0), (sL 5), ((.ofNat 0), []), ((.ofNat 0), [])])]),
  [((15, [qtN 0 0 59, qtN 6 1 910, qtN 7 0 60, qtN 8 0 60, qtN 9 0 60, qtN 10 0 1, qtN 11 0 8, qtN 13 0 1, qtN 14 1 13], [], [], [qoC 5 [.inl (false, ((.ofNat 1), [(0, (.ofNat 1))])), qvR 1, qvS 6, qvS 7, qvS 8, qvR 2, qvR 3], qiC 2 [qgN 60 0 127], qiC 0 [qgA 60], qjC 1 60], [(10, [1], [((.ofNat 0), []), ((.ofNat 1), [(0, (.ofNat 1))]), ((.ofNat 0), [(4, (.ofNat 1)), (5, (.ofNat 128))]), ((.ofNat 0), []), ((.ofNat 0), [])]), (28, [], [((.ofNat 1), [(0, (.ofNat 1))]), ((.ofNat 0), [(4, (.ofNat 1)), (5, (.ofNat 128))]), (sL 6)]), (28, [], [((.ofNat 1), [(0, (.ofNat 1))]), ((.ofNat 0), [(4, (.ofNat 1)), (5, (.ofNat 128))]), (sL 9), (sL 10), (sL 11), (sL 12), (sL 13)]), (29, [], [((.ofNat 1), [(0, (.ofNat 1))]), ((.ofNat 0), [(4, (.ofNat 1)), (5, (.ofNat 128))]), (sL 9), (sL 14)])]), 0, 0),
   ((10, [qtN 0 0 59, qtN 6 1 60, qtN 7 1 60, qtN 8 1 7, qtN 9 0 1], [((.negSucc 0), [(0, (.negSucc 0)), (6, (.ofNat 1))]), ((.ofNat 1), [(0, (.ofNat 1)), (6, (.negSucc 0))])], [], [qoC 5 [.inl (false, ((.ofNat 1), [(0, (.ofNat 1))])), qvR 1, qvK (.negSucc 0), qvS 6, qvS 7, qvR 2, qvR 3], qiC 2 [qgN 60 0 127], qiC 0 [qgA 60], qjC 1 60], [(28, [], [((.ofNat 1), [(0, (.ofNat 1))]), ((.ofNat 0), [(4, (.ofNat 1)), (5, (.ofNat 128))]), ((.negSucc 0), [])]), (29, [], [((.ofNat 1), [(0, (.ofNat 1))]), ((.ofNat 0), [(4, (.ofNat 1)), (5, (.ofNat 128))]), (sL 6), (sL 8)]), (10, [1], [((.ofNat 0), []), ((.ofNat 1), [(0, (.ofNat 1))]), ((.ofNat 0), [(4, (.ofNat 1)), (5, (.ofNat 128))]), ((.ofNat 0), []), ((.ofNat 0), [])]), (28, [], [((.ofNat 1), [(0, (.ofNat 1))]), ((.ofNat 0), [(4, (.ofNat 1)), (5, (.ofNat 128))]), (sL 6), ((.ofNat 1), []), ((.ofNat 0), []), ((.ofNat 0), []), (sL 9)])]), 0, 0),
   ((6, [qtN 0 60 60], [], [], zh137, [(10, [1], [((.ofNat 0), []), (sL 0), (sL 5), ((.ofNat 0), []), ((.ofNat 0), [])])]), 0, 0)])
noncomputable def c32_0_e : List Ct := [c33_0]
noncomputable def c32_0_pts : List PE := []
set_option maxRecDepth 100000 in
theorem c32_0_k : enCtF c32_0 c32_0_e (pkP (c32_0_pts ++ []) []) (none) (noF, (mTx 19), 0, 524288, 6) 3000 = true := by decide +kernel
set_option maxRecDepth 100000 in
theorem c32_0_v : ValidC PPk c32_0 := ct_ok fpk ⟨noF_ok, (mTx_ok 19)⟩ (d := 74) (ext := []) (pts := c32_0_pts) (env := c32_0_e) rfl (List.forall_mem_cons.mpr ⟨⟨c33_0_v, Nat.le_of_ble_eq_true rfl⟩, fun _ h => (by cases h)⟩) ext_nil (fun q h => (by cases h)) (enF c32_0_k) (fun _ h => (by cases h))

noncomputable def zt57 (r : TbL) : TbL := qtN 0 1 4 :: qtA 1 :: qtA 2 :: qtN 3 1 1000 :: qtN 4 0 50 :: qtN 5 0 10 :: qtN 6 0 60 :: qtN 11 0 60 :: qtN 16 0 8 :: qtN 24 0 6 :: qtN 31 0 60 :: (32, (.negSucc 0), (.ofNat 100000)) :: qtN 33 0 60 :: qtN 34 0 60 :: qtN 35 0 8 :: qtA 44 :: qtA 45 :: qtA 46 :: qtA 47 :: qtA 48 :: qtA 49 :: qtN 50 0 3 :: qtA 51 :: qtA 52 :: qtA 53 :: qtA 54 :: qtN 55 0 1 :: qtA 56 :: qtA 57 :: qtA 58 :: qtA 59 :: qtA 60 :: qtA 62 :: qtA 63 :: qtA 64 :: qtA 65 :: qtA 67 :: qtA 68 :: qtA 69 :: qtA 70 :: qtA 72 :: qtA 73 :: qtA 74 :: qtA 75 :: qtA 77 :: r
noncomputable def zh138 : AH := [zc18, zc37, qrC 4 [some 3, some 8], zc38, qkC 100 7, qkC 100 8, qkC 100 9, qkC 100 10, zc39, qkC 100 12, qkC 100 13, qkC 100 14, qkC 100 15, zc40, qkC 100 17, qkC 100 18, qkC 100 19, qkC 100 20, qkC 100 21, qkC 100 22, qkC 100 23, zc41, qkC 100 25, qkC 100 26, qkC 100 27, qkC 100 28, qkC 100 29, qkC 100 30, zc42, qiC 2 [qgN 60 0 127], qiC 0 [qgA 60], qjC 1 60, zc77, qkC 100 36, qkC 100 37, qkC 100 38, qkC 100 39, qkC 100 40, qkC 100 41, qkC 100 42, qkC 100 43, zc78, zc45, zc79, qkC 100 61, zc80, qkC 100 66, zc48, qkC 100 71, zc81, qkC 100 76, zc82, qkC 100 78, qkC 100 79, qkC 100 80, qkC 100 81, qkC 100 82, zc19, qjC 1 6, qjC 1 4, qrC 6 [none, none], qrC 7 [none, none]]
noncomputable def c31_0 : Ct := (31, 76, (85, (zt57 [qtA 83]), [], [qvR 0, qvS 83], zh138, [(0, [9, 10, 11, 12], []), (0, [4, 5, 6, 7], []), (10, [29], [((.ofNat 0), []), (sL 31), (sL 84), ((.ofNat 0), []), ((.ofNat 0), [])])]),
  [((85, [(83, (.negSucc 2147483647), (.negSucc 0))], [], [qvK (.negSucc 1)], zh138, [(0, [9, 10, 11, 12], []), (0, [4, 5, 6, 7], []), (10, [29], [((.ofNat 0), []), (sL 31), (sL 84), ((.ofNat 0), []), ((.ofNat 0), [])])]), 0, 0),
   ((85, [qtN 83 128 2147483647], [], [qvK (.negSucc 1)], zh138, [(0, [9, 10, 11, 12], []), (0, [4, 5, 6, 7], []), (10, [29], [((.ofNat 0), []), (sL 31), (sL 84), ((.ofNat 0), []), ((.ofNat 0), [])])]), 0, 0),
   ((94, [qtN 31 0 59, qtN 83 0 127, qtN 85 1 910, qtN 86 0 60, qtN 87 0 60, qtN 88 0 60, qtN 89 0 1, qtN 90 0 8, qtN 92 0 1, qtN 93 1 13], [], [.inl (false, ((.ofNat 1), [(31, (.ofNat 1))]))], [zc18, zc37, qrC 4 [some 3, some 8], zc38, qkC 100 7, qkC 100 8, qkC 100 9, qkC 100 10, zc39, qkC 100 12, qkC 100 13, qkC 100 14, qkC 100 15, zc40, qkC 100 17, qkC 100 18, qkC 100 19, qkC 100 20, qkC 100 21, qkC 100 22, qkC 100 23, zc41, qkC 100 25, qkC 100 26, qkC 100 27, qkC 100 28, qkC 100 29, qkC 100 30, qoC 5 [.inl (false, ((.ofNat 1), [(31, (.ofNat 1))])), qvR 29, qvS 85, qvS 86, qvS 87, qvR 30, qvR 31], qiC 2 [qgN 60 0 127], qiC 0 [qgA 60], qjC 1 60, zc77, qkC 100 36, qkC 100 37, qkC 100 38, qkC 100 39, qkC 100 40, qkC 100 41, qkC 100 42, qkC 100 43, zc78, zc45, zc79, qkC 100 61, zc80, qkC 100 66, zc48, qkC 100 71, zc81, qkC 100 76, zc82, qkC 100 78, qkC 100 79, qkC 100 80, qkC 100 81, qkC 100 82, zc19, qjC 1 6, qjC 1 4, qrC 6 [none, none], qrC 7 [none, none]], [(0, [9, 10, 11, 12], []), (0, [4, 5, 6, 7], []), (10, [29], [((.ofNat 0), []), ((.ofNat 1), [(31, (.ofNat 1))]), ((.ofNat 0), [(83, (.ofNat 1)), (84, (.ofNat 128))]), ((.ofNat 0), []), ((.ofNat 0), [])]), (28, [], [((.ofNat 1), [(31, (.ofNat 1))]), ((.ofNat 0), [(83, (.ofNat 1)), (84, (.ofNat 128))]), (sL 85)]), (28, [], [((.ofNat 1), [(31, (.ofNat 1))]), ((.ofNat 0), [(83, (.ofNat 1)), (84, (.ofNat 128))]), (sL 88), (sL 89), (sL 90), (sL 91), (sL 92)]), (29, [], [((.ofNat 1), [(31, (.ofNat 1))]), ((.ofNat 0), [(83, (.ofNat 1)), (84, (.ofNat 128))]), (sL 88), (sL 93)])]), 0, 0),
   ((89, [qtN 31 0 59, qtN 83 0 127, qtN 85 1 60, qtN 86 1 60, qtN 87 1 7, qtN 88 0 1], [((.ofNat 1), [(31, (.ofNat 1)), (85, (.negSucc 0))]), ((.negSucc 0), [(31, (.negSucc 0)), (85, (.ofNat 1))])], [.inl (false, ((.ofNat 1), [(31, (.ofNat 1))]))], [zc18, zc37, qrC 4 [some 3, some 8], zc38, qkC 100 7, qkC 100 8, qkC 100 9, qkC 100 10, zc39, qkC 100 12, qkC 100 13, qkC 100 14, qkC 100 15, zc40, qkC 100 17, qkC 100 18, qkC 100 19, qkC 100 20, qkC 100 21, qkC 100 22, qkC 100 23, zc41, qkC 100 25, qkC 100 26, qkC 100 27, qkC 100 28, qkC 100 29, qkC 100 30, qoC 5 [.inl (false, ((.ofNat 1), [(31, (.ofNat 1))])), qvR 29, qvK (.negSucc 0), qvS 85, qvS 86, qvR 30, qvR 31], qiC 2 [qgN 60 0 127], qiC 0 [qgA 60], qjC 1 60, zc77, qkC 100 36, qkC 100 37, qkC 100 38, qkC 100 39, qkC 100 40, qkC 100 41, qkC 100 42, qkC 100 43, zc78, zc45, zc79, qkC 100 61, zc80, qkC 100 66, zc48, qkC 100 71, zc81, qkC 100 76, zc82, qkC 100 78, qkC 100 79, qkC 100 80, qkC 100 81, qkC 100 82, zc19, qjC 1 6, qjC 1 4, qrC 6 [none, none], qrC 7 [none, none]], [(0, [9, 10, 11, 12], []), (0, [4, 5, 6, 7], []), (28, [], [((.ofNat 1), [(31, (.ofNat 1))]), ((.ofNat 0), [(83, (.ofNat 1)), (84, (.ofNat 128))]), ((.negSucc 0), [])]), (29, [], [((.ofNat 1), [(31, (.ofNat 1))]), ((.ofNat 0), [(83, (.ofNat 1)), (84, (.ofNat 128))]), (sL 85), (sL 87)]), (10, [29], [((.ofNat 0), []), ((.ofNat 1), [(31, (.ofNat 1))]), ((.ofNat 0), [(83, (.ofNat 1)), (84, (.ofNat 128))]), ((.ofNat 0), []), ((.ofNat 0), [])]), (28, [], [((.ofNat 1), [(31, (.ofNat 1))]), ((.ofNat 0), [(83, (.ofNat 1)), (84, (.ofNat 128))]), (sL 85), ((.ofNat 1), []), ((.ofNat 0), []), ((.ofNat 0), []), (sL 88)])]), 0, 0),
   ((85, [qtN 31 60 60, qtN 83 0 127], [], [qvK (.negSucc 3)], zh138, [(0, [9, 10, 11, 12], []), (0, [4, 5, 6, 7], []), (10, [29], [((.ofNat 0), []), (sL 31), (sL 84), ((.ofNat 0), []), ((.ofNat 0), [])])]), 0, 0)])
noncomputable def c31_0_e : List Ct := [c12_0, c32_0]
noncomputable def c31_0_pts : List PE := []
set_option maxRecDepth 100000 in
theorem c31_0_k : enCtF c31_0 c31_0_e (pkP (c31_0_pts ++ []) []) (none) noH 3000 = true := by decide +kernel
set_option maxRecDepth 100000 in
theorem c31_0_v : ValidC PPk c31_0 := ct_ok fpk noH_ok (d := 75) (ext := []) (pts := c31_0_pts) (env := c31_0_e) rfl (List.forall_mem_cons.mpr ⟨⟨c12_0_v, Nat.le_of_ble_eq_true rfl⟩, List.forall_mem_cons.mpr ⟨⟨c32_0_v, Nat.le_of_ble_eq_true rfl⟩, fun _ h => (by cases h)⟩⟩) ext_nil (fun q h => (by cases h)) (enF c31_0_k) (fun _ h => (by cases h))

noncomputable def c158_0 : Ct := (158, 2, (35, (zt2 [qtA 33]), [((.ofNat 1), [(19, (.negSucc 0)), (20, (.negSucc 0)), (21, (.negSucc 0)), (22, (.negSucc 0))])], [qvR 0, qvS 33], zh54, [(2, [1], []), (1, [1], []), (10, [1], [((.ofNat 832), []), (sL 15), (sL 34), ((.ofNat 0), []), ((.ofNat 0), [])])]),
  [((35, [(33, (.negSucc 2147483647), (.negSucc 0))], [], [qvK (.negSucc 1)], zh54, [(2, [1], []), (1, [1], []), (10, [1], [((.ofNat 832), []), (sL 15), (sL 34), ((.ofNat 0), []), ((.ofNat 0), [])])]), 0, 0),
   ((35, [qtN 33 128 2147483647], [], [qvK (.negSucc 1)], zh54, [(2, [1], []), (1, [1], []), (10, [1], [((.ofNat 832), []), (sL 15), (sL 34), ((.ofNat 0), []), ((.ofNat 0), [])])]), 0, 0),
   ((35, [qtN 15 0 59, qtN 33 0 127], [], [.inl (false, ((.ofNat 1), [(15, (.ofNat 1))]))], [zc52, qiC 0 [qgS 10, qgS 11, qgS 12, qgS 13, qgS 14, .inl ((.ofNat 1), [(15, (.ofNat 1))]), qgS 16, qgS 17, qgA 5, qgN 1 0 3, qgS 18, qgA 2, qgN 1 1 1000, qgN 1 0 50, qgA 23, qgS 19, qgA 39, qgS 20, qgA 39, qgS 21, qgA 39, qgS 22, qgA 517, qgN 12 0 60, qgN 1 0 5, qgN 1 0 39, qgN 1 0 40, qgN 1 0 5, qgN 1 0 39, qgN 1 0 40, qgN 1 0 5, qgN 1 0 39, qgN 1 0 40, qgN 1 0 5, qgN 1 0 39, qgN 1 0 40, qgN 1 0 5, qgN 1 0 39, qgN 1 0 40, qgN 1 0 5, qgN 1 0 39, qgN 1 0 40, qgN 1 0 5, qgN 1 0 39, qgN 1 0 40, qgN 1 0 5, qgN 1 0 39, qgN 1 0 40, qgA 76, qgA 2, qgN 1 0 5, qgA 2, qgA 2, qgN 1 0 5, qgA 2, qgA 2, qgN 1 0 5, qgA 2, qgA 2, qgN 1 0 5, qgA 2, qgA 2, qgN 1 0 5, qgA 2, qgA 2, qgN 1 0 5, qgA 2, qgA 2, qgN 1 0 5, qgA 2, qgA 2, qgN 1 0 5, qgA 2, qgN 60 0 127, qgA 18], qkC 100 23, qkC 103 24, qkC 100 25, qkC 100 26, qkC 100 27, qjC 1 70, qjC 1 8, qkC 100 28, qkC 100 29, qkC 100 30, qkC 100 31, qkC 100 32, qjC 1 4], [(2, [1], []), (1, [1], []), (10, [1], [((.ofNat 832), []), ((.ofNat 1), [(15, (.ofNat 1))]), ((.ofNat 0), [(33, (.ofNat 1)), (34, (.ofNat 128))]), ((.ofNat 0), []), ((.ofNat 0), [])])]), 0, 0),
   ((35, [qtN 15 60 60, qtN 33 0 127], [], [qvK (.negSucc 3)], zh54, [(2, [1], []), (1, [1], []), (10, [1], [((.ofNat 832), []), (sL 15), (sL 34), ((.ofNat 0), []), ((.ofNat 0), [])])]), 0, 0)])
noncomputable def c158_0_e : List Ct := [c145_0]
noncomputable def c158_0_pts : List PE := []
set_option maxRecDepth 100000 in
theorem c158_0_k : enCtF c158_0 c158_0_e (pkP (c158_0_pts ++ []) []) (none) (noF, (mTx 42), 0, 4398046511104, 35) 3000 = true := by decide +kernel
set_option maxRecDepth 100000 in
theorem c158_0_v : ValidC PPk c158_0 := ct_ok fpk ⟨noF_ok, (mTx_ok 42)⟩ (d := 1) (ext := []) (pts := c158_0_pts) (env := c158_0_e) rfl (List.forall_mem_cons.mpr ⟨⟨c145_0_v, Nat.le_of_ble_eq_true rfl⟩, fun _ h => (by cases h)⟩) ext_nil (fun q h => (by cases h)) (enF c158_0_k) (fun _ h => (by cases h))

noncomputable def c47_0 : Ct := (47, 75, (5, [qtN 0 0 60, (1, (.negSucc 0), (.ofNat 100000)), qtN 2 0 60, qtN 3 0 60], [], [qvR 0], zh137, [(10, [1], [((.ofNat 0), []), (sL 0), (sL 4), ((.ofNat 0), []), ((.ofNat 0), [])])]),
  [((14, (zt55 []), [], [], [qoC 5 [qvK (.ofNat 0), qvR 1, qvS 5, qvS 6, qvS 7, qvR 2, qvR 3], qiC 2 [qgN 60 0 127], qiC 0 [qgA 60], qjC 1 60], [(10, [1], [((.ofNat 0), []), ((.ofNat 0), []), ((.ofNat 0), []), ((.ofNat 0), []), ((.ofNat 0), [])]), (28, [], [((.ofNat 0), []), ((.ofNat 0), []), (sL 5)]), (28, [], [((.ofNat 0), []), ((.ofNat 0), []), (sL 8), (sL 9), (sL 10), (sL 11), (sL 12)]), (29, [], [((.ofNat 0), []), ((.ofNat 0), []), (sL 8), (sL 13)])]), 0, 0)])
noncomputable def c47_0_e : List Ct := [c33_0]
noncomputable def c47_0_pts : List PE := []
set_option maxRecDepth 100000 in
theorem c47_0_k : enCtF c47_0 c47_0_e (pkP (c47_0_pts ++ []) []) (none) ((hZ10 5 1 0), noM, 0, 32, 5) 3000 = true := by decide +kernel
set_option maxRecDepth 100000 in
theorem c47_0_v : ValidC PPk c47_0 := ct_ok fpk ⟨(hZ10_ok 5 1 0), noM_ok⟩ (d := 74) (ext := []) (pts := c47_0_pts) (env := c47_0_e) rfl (List.forall_mem_cons.mpr ⟨⟨c33_0_v, Nat.le_of_ble_eq_true rfl⟩, fun _ h => (by cases h)⟩) ext_nil (fun q h => (by cases h)) (enF c47_0_k) (fun _ h => (by cases h))

noncomputable def c46_0 : Ct := (46, 76, (84, (zt57 []), [], [qvR 0], zh138, [(0, [9, 10, 11, 12], []), (0, [4, 5, 6, 7], []), (10, [29], [((.ofNat 0), []), (sL 31), (sL 83), ((.ofNat 0), []), ((.ofNat 0), [])])]),
  [((93, [qtN 84 1 910, qtN 85 0 60, qtN 86 0 60, qtN 87 0 60, qtN 88 0 1, qtN 89 0 8, qtN 91 0 1, qtN 92 1 13], [], [qvS 31], [zc18, zc37, qrC 4 [some 3, some 8], zc38, qkC 100 7, qkC 100 8, qkC 100 9, qkC 100 10, zc39, qkC 100 12, qkC 100 13, qkC 100 14, qkC 100 15, zc40, qkC 100 17, qkC 100 18, qkC 100 19, qkC 100 20, qkC 100 21, qkC 100 22, qkC 100 23, zc41, qkC 100 25, qkC 100 26, qkC 100 27, qkC 100 28, qkC 100 29, qkC 100 30, qoC 5 [qvK (.ofNat 0), qvR 29, qvS 84, qvS 85, qvS 86, qvR 30, qvR 31], qiC 2 [qgN 60 0 127], qiC 0 [qgA 60], qjC 1 60, zc77, qkC 100 36, qkC 100 37, qkC 100 38, qkC 100 39, qkC 100 40, qkC 100 41, qkC 100 42, qkC 100 43, zc78, zc45, zc79, qkC 100 61, zc80, qkC 100 66, zc48, qkC 100 71, zc81, qkC 100 76, zc82, qkC 100 78, qkC 100 79, qkC 100 80, qkC 100 81, qkC 100 82, zc19, qjC 1 6, qjC 1 4, qrC 6 [none, none], qrC 7 [none, none]], [(0, [9, 10, 11, 12], []), (0, [4, 5, 6, 7], []), (10, [29], [((.ofNat 0), []), ((.ofNat 0), []), ((.ofNat 0), []), ((.ofNat 0), []), ((.ofNat 0), [])]), (28, [], [((.ofNat 0), []), ((.ofNat 0), []), (sL 84)]), (28, [], [((.ofNat 0), []), ((.ofNat 0), []), (sL 87), (sL 88), (sL 89), (sL 90), (sL 91)]), (29, [], [((.ofNat 0), []), ((.ofNat 0), []), (sL 87), (sL 92)])]), 0, 0)])
noncomputable def c46_0_e : List Ct := [c47_0]
noncomputable def c46_0_pts : List PE := []
set_option maxRecDepth 100000 in
theorem c46_0_k : enCtF c46_0 c46_0_e (pkP (c46_0_pts ++ []) []) (none) noH 3000 = true := by decide +kernel
set_option maxRecDepth 100000 in
theorem c46_0_v : ValidC PPk c46_0 := ct_ok fpk noH_ok (d := 75) (ext := []) (pts := c46_0_pts) (env := c46_0_e) rfl (List.forall_mem_cons.mpr ⟨⟨c47_0_v, Nat.le_of_ble_eq_true rfl⟩, fun _ h => (by cases h)⟩) ext_nil (fun q h => (by cases h)) (enF c46_0_k) (fun _ h => (by cases h))

noncomputable def c159_0 : Ct := (159, 1, (34, (zt2 []), [((.ofNat 1), [(19, (.negSucc 0)), (20, (.negSucc 0)), (21, (.negSucc 0)), (22, (.negSucc 0))])], [qvR 0], zh54, [(2, [1], []), (1, [1], []), (10, [1], [((.ofNat 832), []), (sL 15), (sL 33), ((.ofNat 0), []), ((.ofNat 0), [])])]),
  [((34, [], [], [qvS 15], [zc52, qiC 0 [qgS 10, qgS 11, qgS 12, qgS 13, qgS 14, .inl ((.ofNat 0), []), qgS 16, qgS 17, qgA 5, qgN 1 0 3, qgS 18, qgA 2, qgN 1 1 1000, qgN 1 0 50, qgA 23, qgS 19, qgA 39, qgS 20, qgA 39, qgS 21, qgA 39, qgS 22, qgA 517, qgN 12 0 60, qgN 1 0 5, qgN 1 0 39, qgN 1 0 40, qgN 1 0 5, qgN 1 0 39, qgN 1 0 40, qgN 1 0 5, qgN 1 0 39, qgN 1 0 40, qgN 1 0 5, qgN 1 0 39, qgN 1 0 40, qgN 1 0 5, qgN 1 0 39, qgN 1 0 40, qgN 1 0 5, qgN 1 0 39, qgN 1 0 40, qgN 1 0 5, qgN 1 0 39, qgN 1 0 40, qgN 1 0 5, qgN 1 0 39, qgN 1 0 40, qgA 76, qgA 2, qgN 1 0 5, qgA 2, qgA 2, qgN 1 0 5, qgA 2, qgA 2, qgN 1 0 5, qgA 2, qgA 2, qgN 1 0 5, qgA 2, qgA 2, qgN 1 0 5, qgA 2, qgA 2, qgN 1 0 5, qgA 2, qgA 2, qgN 1 0 5, qgA 2, qgA 2, qgN 1 0 5, qgA 2, qgN 60 0 127, qgA 18], qkC 100 23, qkC 103 24, qkC 100 25, qkC 100 26, qkC 100 27, qjC 1 70, qjC 1 8, qkC 100 28, qkC 100 29, qkC 100 30, qkC 100 31, qkC 100 32, qjC 1 4], [(2, [1], []), (1, [1], []), (10, [1], [((.ofNat 832), []), ((.ofNat 0), []), ((.ofNat 0), []), ((.ofNat 0), []), ((.ofNat 0), [])])]), 0, 0)])
noncomputable def c159_0_e : List Ct := []
noncomputable def c159_0_pts : List PE := []
set_option maxRecDepth 100000 in
theorem c159_0_k : enCtF c159_0 c159_0_e (pkP (c159_0_pts ++ []) []) (none) ((hZ10 14 1 832), noM, 0, 16384, 34) 3000 = true := by decide +kernel
set_option maxRecDepth 100000 in
theorem c159_0_v : ValidC PPk c159_0 := ct_ok fpk ⟨(hZ10_ok 14 1 832), noM_ok⟩ (d := 0) (ext := []) (pts := c159_0_pts) (env := c159_0_e) rfl (fun _ h => (by cases h)) ext_nil (fun q h => (by cases h)) (enF c159_0_k) (fun _ h => (by cases h))

noncomputable def c48_0 : Ct := (48, 1, (85, (zt15 []), [], [qvR 0], zh99, [(0, [9, 10, 11, 12], []), (0, [4, 5, 6, 7], [])]),
  [((85, [], [], [qvS 32], zh99, [(0, [9, 10, 11, 12], []), (0, [4, 5, 6, 7], [])]), 0, 0)])
noncomputable def c48_0_e : List Ct := []
noncomputable def c48_0_pts : List PE := []
set_option maxRecDepth 100000 in
theorem c48_0_k : enCtF c48_0 c48_0_e (pkP (c48_0_pts ++ []) []) (none) noH 3000 = true := by decide +kernel
set_option maxRecDepth 100000 in
theorem c48_0_v : ValidC PPk c48_0 := ct_ok fpk noH_ok (d := 0) (ext := []) (pts := c48_0_pts) (env := c48_0_e) rfl (fun _ h => (by cases h)) ext_nil (fun q h => (by cases h)) (enF c48_0_k) (fun _ h => (by cases h))

noncomputable def c163_0 : Ct := (163, 1, (1, [qtN 0 0 13], [], [qvS 0], [], []),
  [((1, [qtN 0 0 1], [], [qvK (.ofNat 0)], [], []), 0, 0),
   ((1, [qtN 0 2 3], [], [qvK (.ofNat 6)], [], []), 0, 0),
   ((1, [qtN 0 4 5], [], [qvK (.ofNat 5)], [], []), 0, 0),
   ((1, [qtN 0 6 7], [], [qvK (.ofNat 4)], [], []), 0, 0),
   ((1, [qtN 0 8 10], [], [qvK (.ofNat 3)], [], []), 0, 0),
   ((1, [qtN 0 11 11], [], [qvK (.ofNat 2)], [], []), 0, 0),
   ((1, [qtN 0 12 12], [], [qvK (.ofNat 1)], [], []), 0, 0),
   ((1, [qtN 0 13 13], [], [qvK (.ofNat 0)], [], []), 0, 0)])
noncomputable def c163_0_e : List Ct := []
noncomputable def c163_0_pts : List PE := []
set_option maxRecDepth 100000 in
theorem c163_0_k : enCtF c163_0 c163_0_e (pkP (c163_0_pts ++ []) []) (some (0, 0, 14)) noH 3000 = true := by decide +kernel
set_option maxRecDepth 100000 in
theorem c163_0_v : ValidC PPk c163_0 := ct_ok fpk noH_ok (d := 0) (ext := []) (pts := c163_0_pts) (env := c163_0_e) rfl (fun _ h => (by cases h)) ext_nil (fun q h => (by cases h; exact Nat.le_of_ble_eq_true rfl)) (enF c163_0_k) (fun _ h => (by cases h))

noncomputable def zh139 : AH := [zc52, qkC 100 10, qkC 100 11, qkC 103 12, qiC 0 [qgA 70], qiC 0 [qgA 70], qkC 100 13, qjC 1 70, qjC 1 8, qkC 100 14, qkC 100 15, qkC 100 16, qkC 100 17, qkC 100 18, qjC 1 4]
noncomputable def zh140 : AH := [qoC 12 [qvR 1, qvR 2, qvR 3, .inl (false, ((.ofNat 1), [(0, (.ofNat 1))])), qvR 4, qvR 5, qvS 1, qvR 6, qvR 7, qvS 2, qvR 8, qvS 3, qvR 9, qvR 10, qvR 11, qvR 12, qvS 4, qvS 5, qvS 6, qvR 13, qvS 7, qvS 8, qvS 9, qvR 14], qkC 100 10, qkC 100 11, qkC 103 12, qiC 0 [qgA 70], qiC 0 [qgA 70], qkC 100 13, qjC 1 70, qjC 1 8, qkC 100 14, qkC 100 15, qkC 100 16, qkC 100 17, qkC 100 18, qjC 1 4]
noncomputable def c164_0 : Ct := (164, 1, (21, (zt5 [qtA 19, qtA 20]), [], [qvR 0, qvS 19, qvS 20], zh139, [(2, [1], []), (1, [1], [])]),
  [((21, [], [], [], zh140, [(2, [1], []), (1, [1], [])]), 0, 0)])
noncomputable def c164_0_e : List Ct := []
noncomputable def c164_0_pts : List PE := []
set_option maxRecDepth 100000 in
theorem c164_0_k : enCtF c164_0 c164_0_e (pkP (c164_0_pts ++ []) []) (none) noH 3000 = true := by decide +kernel
set_option maxRecDepth 100000 in
theorem c164_0_v : ValidC PPk c164_0 := ct_ok fpk noH_ok (d := 0) (ext := []) (pts := c164_0_pts) (env := c164_0_e) rfl (fun _ h => (by cases h)) ext_nil (fun q h => (by cases h)) (enF c164_0_k) (fun _ h => (by cases h))

noncomputable def zt58 (r : TbL) : TbL := qtN 0 0 69 :: qtN 1 0 69 :: qtN 2 0 8 :: qtA 3 :: qtA 4 :: qtA 5 :: qtA 6 :: qtA 7 :: qtA 8 :: qtA 9 :: qtN 19 0 1 :: qtN 20 0 6 :: r
noncomputable def zh141 : AH := [zc52, qkC 100 10, qkC 100 11, qkC 103 12, qiC 0 [qgA 70], qiC 0 [qgA 70], qiC 0 [qgA 70], qjC 1 70, qjC 1 8, qkC 100 13, qkC 100 14, qkC 100 15, qkC 100 16, qkC 100 17, qjC 1 4]
noncomputable def zh142 : AH := [qoC 12 [qvR 1, qvR 2, qvR 3, .inl (false, ((.ofNat 0), [(0, (.ofNat 1)), (1, (.ofNat 1))])), qvR 4, qvR 5, qvK (.ofNat 0), qvR 6, qvR 7, qvS 2, qvR 8, qvS 3, qvR 9, qvR 10, qvR 11, qvR 12, qvS 4, qvS 5, qvS 6, qvR 13, qvS 7, qvS 8, qvS 9, qvR 14], qkC 100 10, qkC 100 11, qkC 103 12, qiC 0 [qgA 70], qiC 0 [qgA 70], qiC 0 [qgA 70], qjC 1 70, qjC 1 8, qkC 100 13, qkC 100 14, qkC 100 15, qkC 100 16, qkC 100 17, qjC 1 4]
noncomputable def zt59 (r : TbL) : TbL := qtN 0 0 69 :: qtN 1 0 69 :: qtN 2 0 8 :: qtA 3 :: qtA 4 :: qtA 5 :: qtA 6 :: qtA 7 :: qtA 8 :: qtA 9 :: qtN 19 0 1 :: qtN 20 0 6 :: qtN 21 0 69 :: qtN 22 0 1 :: qtN 23 0 6 :: r
noncomputable def zh143 : AH := [qoC 12 [qvR 1, qvR 2, qvR 3, .inl (false, ((.ofNat 0), [(0, (.ofNat 1)), (1, (.ofNat 1)), (21, (.negSucc 0))])), qvR 4, qvR 5, qvS 21, qvR 6, qvR 7, qvS 2, qvR 8, qvS 3, qvR 9, qvR 10, qvR 11, qvR 12, qvS 4, qvS 5, qvS 6, qvR 13, qvS 7, qvS 8, qvS 9, qvR 14], qkC 100 10, qkC 100 11, qkC 103 12, qiC 0 [qgA 70], qiC 0 [qgA 70], qiC 0 [qgA 70], qjC 1 70, qjC 1 8, qkC 100 13, qkC 100 14, qkC 100 15, qkC 100 16, qkC 100 17, qjC 1 4]
noncomputable def c162_0 : Ct := (162, 2, (21, (zt58 []), [((.negSucc 68), [(0, (.ofNat 1)), (1, (.ofNat 1))])], [qvR 0, qvK (.ofNat 1)], zh141, [(2, [1], []), (1, [1], []), (29, [6], [(sL 1), ((.ofNat 0), []), (sL 18), (sL 19), (sL 20)])]),
  [((21, [], [((.ofNat 0), [(18, (.negSucc 0))]), (sL 18), ((.negSucc 69), [(0, (.ofNat 1)), (1, (.ofNat 1))])], [], zh142, [(2, [1], []), (1, [1], []), (29, [6], [((.ofNat 0), []), ((.ofNat 0), []), (sL 18), ((.ofNat 0), []), ((.ofNat 0), [])])]), 0, 0)])
noncomputable def c162_0_e : List Ct := [c163_0, c164_0]
noncomputable def c162_0_p0 : PE := (0, [0, 1], (24, (zt59 []), [((.negSucc 68), [(0, (.ofNat 1)), (1, (.ofNat 1))]), ((.negSucc 69), [(0, (.ofNat 1)), (1, (.ofNat 1))]), ((.ofNat 0), [(0, (.negSucc 0)), (1, (.negSucc 0)), (21, (.ofNat 1))]), ((.negSucc 68), [(0, (.ofNat 1)), (1, (.ofNat 1)), (21, (.negSucc 0))]), ((.negSucc 69), [(0, (.ofNat 1)), (1, (.ofNat 1)), (21, (.negSucc 0))]), ((.ofNat 0), [(1, (.negSucc 0)), (21, (.ofNat 1))]), ((.negSucc 0), [(1, (.negSucc 0)), (21, (.ofNat 1))])], [qvR 0, qvK (.ofNat 1)], zh143, [(2, [1], []), (1, [1], []), (29, [6], [(sL 21), ((.ofNat 0), []), (sL 18), (sL 22), (sL 23)])]), symsL 21 0, some ((.ofNat 139), [(0, (.negSucc 0)), (1, (.negSucc 0)), (21, (.ofNat 1))]), 0, 0)
noncomputable def c162_0_pts : List PE := [c162_0_p0]
set_option maxRecDepth 100000 in
theorem c162_0_k : enCtF c162_0 c162_0_e (pkP (c162_0_pts ++ []) [0]) (none) ((hOr (hWpop 7 6) (hWz 52 6)), noM, 1, 4503599627370624, 21) 3000 = true := by decide +kernel
set_option maxRecDepth 100000 in
theorem c162_0_k0 : ptCtF c162_0 c162_0_e (pkP (c162_0_pts ++ []) [0]) ((hOr (hWpop 7 6) (hWz 52 6)), noM, 1, 4503599627370624, 21) 3000 c162_0_p0 = true := by decide +kernel
set_option maxRecDepth 100000 in
theorem c162_0_v : ValidC PPk c162_0 := ct_ok fpk ⟨(hOr_ok (hWpop_ok 7 6) (hWz_ok 52 6)), noM_ok⟩ (d := 1) (ext := []) (pts := c162_0_pts) (env := c162_0_e) rfl (List.forall_mem_cons.mpr ⟨⟨c163_0_v, Nat.le_of_ble_eq_true rfl⟩, List.forall_mem_cons.mpr ⟨⟨c164_0_v, Nat.le_of_ble_eq_true rfl⟩, fun _ h => (by cases h)⟩⟩) ext_nil (fun q h => (by cases h)) (enF c162_0_k) (List.forall_mem_cons.mpr ⟨⟨_, ptF c162_0_k0⟩, fun _ h => (by cases h)⟩)

noncomputable def c168_0 : Ct := (168, 1, (1, [qtA 0], [], [qvS 0], [], []),
  [((1, [(0, (.negSucc 2147483647), (.ofNat 99))], [], [qvK (.negSucc 0)], [], []), 0, 0),
   ((1, [qtN 0 119 2147483647], [], [qvK (.negSucc 0)], [], []), 0, 0),
   ((1, [qtN 0 100 100], [], [qvK (.ofNat 3)], [], []), 0, 0),
   ((1, [qtN 0 101 101], [], [qvK (.negSucc 0)], [], []), 0, 0),
   ((1, [qtN 0 102 102], [], [qvK (.ofNat 5)], [], []), 0, 0),
   ((1, [qtN 0 103 103], [], [qvK (.negSucc 0)], [], []), 0, 0),
   ((1, [qtN 0 104 104], [], [qvK (.ofNat 0)], [], []), 0, 0),
   ((1, [qtN 0 105 105], [], [qvK (.negSucc 0)], [], []), 0, 0),
   ((1, [qtN 0 106 106], [], [qvK (.negSucc 0)], [], []), 0, 0),
   ((1, [qtN 0 107 107], [], [qvK (.negSucc 0)], [], []), 0, 0),
   ((1, [qtN 0 108 108], [], [qvK (.negSucc 0)], [], []), 0, 0),
   ((1, [qtN 0 109 109], [], [qvK (.ofNat 4)], [], []), 0, 0),
   ((1, [qtN 0 110 110], [], [qvK (.ofNat 2)], [], []), 0, 0),
   ((1, [qtN 0 111 111], [], [qvK (.negSucc 0)], [], []), 0, 0),
   ((1, [qtN 0 112 112], [], [qvK (.negSucc 0)], [], []), 0, 0),
   ((1, [qtN 0 113 113], [], [qvK (.negSucc 0)], [], []), 0, 0),
   ((1, [qtN 0 114 114], [], [qvK (.negSucc 0)], [], []), 0, 0),
   ((1, [qtN 0 115 115], [], [qvK (.negSucc 0)], [], []), 0, 0),
   ((1, [qtN 0 116 116], [], [qvK (.negSucc 0)], [], []), 0, 0),
   ((1, [qtN 0 117 117], [], [qvK (.negSucc 0)], [], []), 0, 0),
   ((1, [qtN 0 118 118], [], [qvK (.ofNat 1)], [], []), 0, 0)])
noncomputable def c168_0_e : List Ct := []
noncomputable def c168_0_pts : List PE := []
set_option maxRecDepth 100000 in
theorem c168_0_k : enCtF c168_0 c168_0_e (pkP (c168_0_pts ++ []) []) (none) noH 3000 = true := by decide +kernel
set_option maxRecDepth 100000 in
theorem c168_0_v : ValidC PPk c168_0 := ct_ok fpk noH_ok (d := 0) (ext := []) (pts := c168_0_pts) (env := c168_0_e) rfl (fun _ h => (by cases h)) ext_nil (fun q h => (by cases h)) (enF c168_0_k) (fun _ h => (by cases h))

noncomputable def zt60 (r : TbL) : TbL := qtN 0 0 69 :: qtN 1 0 69 :: qtN 2 0 8 :: qtA 3 :: qtA 4 :: qtA 5 :: qtA 6 :: qtA 7 :: qtA 8 :: qtA 9 :: qtN 21 0 1 :: qtN 22 0 6 :: r
noncomputable def zh144 : AH := [zc52, qkC 100 10, qkC 100 11, qkC 103 12, qkC 100 13, qkC 100 14, qiC 0 [qgA 70], qjC 1 70, qjC 1 8, qkC 100 15, qkC 100 16, qkC 100 17, qkC 100 18, qkC 100 19, qjC 1 4]
noncomputable def zh145 : AH := [qoC 12 [qvR 1, qvR 2, qvR 3, qvS 0, qvR 4, qvR 5, .inl (false, ((.ofNat 1), [(1, (.ofNat 1))])), qvR 6, qvR 7, qvS 2, qvR 8, qvS 3, qvR 9, qvR 10, qvR 11, qvR 12, qvS 4, qvS 5, qvS 6, qvR 13, qvS 7, qvS 8, qvS 9, qvR 14], qkC 100 10, qkC 100 11, qkC 103 12, qkC 100 13, qkC 100 14, qiC 0 [qgA 70], qjC 1 70, qjC 1 8, qkC 100 15, qkC 100 16, qkC 100 17, qkC 100 18, qkC 100 19, qjC 1 4]
noncomputable def c167_0 : Ct := (167, 1, (23, (zt60 []), [], [qvR 0, qvK (.ofNat 2)], zh144, [(2, [1], []), (1, [1], []), (29, [6], [(sL 1), ((.ofNat 0), []), (sL 20), (sL 21), (sL 22)])]),
  [((23, [], [], [], zh145, [(2, [1], []), (1, [1], []), (29, [6], [((.ofNat 1), [(1, (.ofNat 1))]), ((.ofNat 0), []), (sL 20), (sL 21), ((.ofNat 6), [])])]), 0, 0)])
noncomputable def c167_0_e : List Ct := []
noncomputable def c167_0_pts : List PE := []
set_option maxRecDepth 100000 in
theorem c167_0_k : enCtF c167_0 c167_0_e (pkP (c167_0_pts ++ []) []) (none) (noF, (mWst 9), 0, 512, 23) 3000 = true := by decide +kernel
set_option maxRecDepth 100000 in
theorem c167_0_v : ValidC PPk c167_0 := ct_ok fpk ⟨noF_ok, (mWst_ok 9)⟩ (d := 0) (ext := []) (pts := c167_0_pts) (env := c167_0_e) rfl (fun _ h => (by cases h)) ext_nil (fun q h => (by cases h)) (enF c167_0_k) (fun _ h => (by cases h))

noncomputable def c167_1 : Ct := (167, 1, (23, (zt60 []), [], [qvR 0, qvK (.ofNat 13)], zh144, [(2, [1], []), (1, [1], []), (29, [6], [(sL 1), ((.ofNat 0), []), (sL 20), (sL 21), (sL 22)])]),
  [((23, [], [], [], zh145, [(2, [1], []), (1, [1], []), (29, [6], [((.ofNat 1), [(1, (.ofNat 1))]), ((.ofNat 1), []), ((.ofNat 0), [(20, (.ofNat 2)), (21, (.ofNat 1))]), ((.ofNat 0), []), ((.ofNat 0), [])])]), 0, 0)])
noncomputable def c167_1_e : List Ct := []
noncomputable def c167_1_pts : List PE := []
set_option maxRecDepth 100000 in
theorem c167_1_k : enCtF c167_1 c167_1_e (pkP (c167_1_pts ++ []) []) (none) (noF, (mWst 9), 0, 512, 23) 3000 = true := by decide +kernel
set_option maxRecDepth 100000 in
theorem c167_1_v : ValidC PPk c167_1 := ct_ok fpk ⟨noF_ok, (mWst_ok 9)⟩ (d := 0) (ext := []) (pts := c167_1_pts) (env := c167_1_e) rfl (fun _ h => (by cases h)) ext_nil (fun q h => (by cases h)) (enF c167_1_k) (fun _ h => (by cases h))

noncomputable def c167_2 : Ct := (167, 1, (23, (zt60 []), [], [qvR 0, qvK (.ofNat 3)], zh144, [(2, [1], []), (1, [1], []), (29, [6], [(sL 1), ((.ofNat 0), []), (sL 20), (sL 21), (sL 22)])]),
  [((23, [], [], [], zh145, [(2, [1], []), (1, [1], []), (29, [6], [((.ofNat 1), [(1, (.ofNat 1))]), ((.ofNat 0), []), (sL 20), (sL 21), ((.ofNat 6), [])])]), 0, 0)])
noncomputable def c167_2_e : List Ct := []
noncomputable def c167_2_pts : List PE := []
set_option maxRecDepth 100000 in
theorem c167_2_k : enCtF c167_2 c167_2_e (pkP (c167_2_pts ++ []) []) (none) (noF, (mWst 9), 0, 512, 23) 3000 = true := by decide +kernel
set_option maxRecDepth 100000 in
theorem c167_2_v : ValidC PPk c167_2 := ct_ok fpk ⟨noF_ok, (mWst_ok 9)⟩ (d := 0) (ext := []) (pts := c167_2_pts) (env := c167_2_e) rfl (fun _ h => (by cases h)) ext_nil (fun q h => (by cases h)) (enF c167_2_k) (fun _ h => (by cases h))

noncomputable def zt61 (r : TbL) : TbL := qtN 0 0 69 :: qtN 1 0 69 :: qtN 2 0 8 :: qtA 3 :: qtA 4 :: qtA 5 :: qtA 6 :: qtA 7 :: qtA 8 :: qtA 9 :: qtN 19 0 1 :: qtN 20 0 6 :: qtN 21 0 69 :: qtN 22 0 6 :: r
noncomputable def c162_1 : Ct := (162, 2, (21, (zt58 []), [((.negSucc 68), [(0, (.ofNat 1)), (1, (.ofNat 1))])], [qvR 0, qvK (.ofNat 6)], zh141, [(2, [1], []), (1, [1], []), (29, [6], [(sL 1), ((.ofNat 0), []), (sL 18), (sL 19), (sL 20)])]),
  [((23, [qtN 21 0 69, qtN 22 0 5], [((.ofNat 0), [(0, (.negSucc 0)), (1, (.negSucc 0)), (21, (.ofNat 1))]), ((.negSucc 68), [(0, (.ofNat 1)), (1, (.ofNat 1)), (21, (.negSucc 0))]), ((.negSucc 69), [(0, (.ofNat 1)), (1, (.ofNat 1)), (21, (.negSucc 0))]), ((.negSucc 69), [(0, (.ofNat 1)), (1, (.ofNat 1))]), ((.ofNat 0), [(1, (.negSucc 0)), (21, (.ofNat 1))]), ((.negSucc 0), [(1, (.negSucc 0)), (21, (.ofNat 1))])], [], zh143, [(2, [1], []), (1, [1], []), (29, [6], [(sL 21), ((.ofNat 0), []), (sL 18), (sL 19), (sL 22)])]), 0, 0)])
noncomputable def c162_1_e : List Ct := [c163_0, c164_0]
noncomputable def c162_1_p0 : PE := (0, [0, 1], (23, (zt61 []), [((.negSucc 68), [(0, (.ofNat 1)), (1, (.ofNat 1))]), ((.negSucc 69), [(0, (.ofNat 1)), (1, (.ofNat 1))]), ((.ofNat 0), [(0, (.negSucc 0)), (1, (.negSucc 0)), (21, (.ofNat 1))]), ((.negSucc 68), [(0, (.ofNat 1)), (1, (.ofNat 1)), (21, (.negSucc 0))]), ((.negSucc 69), [(0, (.ofNat 1)), (1, (.ofNat 1)), (21, (.negSucc 0))]), ((.ofNat 0), [(1, (.negSucc 0)), (21, (.ofNat 1))]), ((.negSucc 0), [(1, (.negSucc 0)), (21, (.ofNat 1))])], [qvR 0, qvK (.ofNat 6)], zh143, [(2, [1], []), (1, [1], []), (29, [6], [(sL 21), ((.ofNat 0), []), (sL 18), (sL 19), (sL 22)])]), symsL 21 0, some ((.ofNat 139), [(0, (.negSucc 0)), (1, (.negSucc 0)), (21, (.ofNat 1))]), 0, 0)
noncomputable def c162_1_pts : List PE := [c162_1_p0]
set_option maxRecDepth 100000 in
theorem c162_1_k : enCtF c162_1 c162_1_e (pkP (c162_1_pts ++ []) [0]) (none) ((hOr (hWpop 7 6) (hWz 52 6)), noM, 1, 4503599627370624, 21) 3000 = true := by decide +kernel
set_option maxRecDepth 100000 in
theorem c162_1_k0 : ptCtF c162_1 c162_1_e (pkP (c162_1_pts ++ []) [0]) ((hOr (hWpop 7 6) (hWz 52 6)), noM, 1, 4503599627370624, 21) 3000 c162_1_p0 = true := by decide +kernel
set_option maxRecDepth 100000 in
theorem c162_1_v : ValidC PPk c162_1 := ct_ok fpk ⟨(hOr_ok (hWpop_ok 7 6) (hWz_ok 52 6)), noM_ok⟩ (d := 1) (ext := []) (pts := c162_1_pts) (env := c162_1_e) rfl (List.forall_mem_cons.mpr ⟨⟨c163_0_v, Nat.le_of_ble_eq_true rfl⟩, List.forall_mem_cons.mpr ⟨⟨c164_0_v, Nat.le_of_ble_eq_true rfl⟩, fun _ h => (by cases h)⟩⟩) ext_nil (fun q h => (by cases h)) (enF c162_1_k) (List.forall_mem_cons.mpr ⟨⟨_, ptF c162_1_k0⟩, fun _ h => (by cases h)⟩)

noncomputable def c162_2 : Ct := (162, 2, (21, (zt58 []), [((.negSucc 68), [(0, (.ofNat 1)), (1, (.ofNat 1))])], [qvR 0, qvK (.ofNat 1)], zh141, [(2, [1], []), (1, [1], []), (29, [6], [(sL 1), ((.ofNat 1), []), (sL 18), (sL 19), (sL 20)])]),
  [((22, [qtN 21 1 69], [((.ofNat 0), [(0, (.negSucc 0)), (1, (.negSucc 0)), (21, (.ofNat 1))]), ((.negSucc 68), [(0, (.ofNat 1)), (1, (.ofNat 1)), (21, (.negSucc 0))]), ((.negSucc 69), [(0, (.ofNat 1)), (1, (.ofNat 1)), (21, (.negSucc 0))]), ((.negSucc 69), [(0, (.ofNat 1)), (1, (.ofNat 1))]), ((.ofNat 0), [(1, (.negSucc 0)), (21, (.ofNat 1))]), ((.negSucc 0), [(1, (.negSucc 0)), (21, (.ofNat 1))])], [], zh143, [(2, [1], []), (1, [1], []), (29, [6], [(sL 21), ((.ofNat 1), []), (sL 18), ((.ofNat 0), []), ((.ofNat 0), [])])]), 0, 0)])
noncomputable def c162_2_e : List Ct := [c163_0, c164_0]
noncomputable def c162_2_p0 : PE := (0, [0, 1], (24, (zt59 []), [((.negSucc 68), [(0, (.ofNat 1)), (1, (.ofNat 1))]), ((.negSucc 69), [(0, (.ofNat 1)), (1, (.ofNat 1))]), ((.ofNat 0), [(0, (.negSucc 0)), (1, (.negSucc 0)), (21, (.ofNat 1))]), ((.negSucc 68), [(0, (.ofNat 1)), (1, (.ofNat 1)), (21, (.negSucc 0))]), ((.negSucc 69), [(0, (.ofNat 1)), (1, (.ofNat 1)), (21, (.negSucc 0))]), ((.ofNat 0), [(1, (.negSucc 0)), (21, (.ofNat 1))]), ((.negSucc 0), [(1, (.negSucc 0)), (21, (.ofNat 1))])], [qvR 0, qvK (.ofNat 1)], zh143, [(2, [1], []), (1, [1], []), (29, [6], [(sL 21), ((.ofNat 1), []), (sL 18), (sL 22), (sL 23)])]), symsL 21 0, some ((.ofNat 139), [(0, (.negSucc 0)), (1, (.negSucc 0)), (21, (.ofNat 1))]), 0, 0)
noncomputable def c162_2_pts : List PE := [c162_2_p0]
set_option maxRecDepth 100000 in
theorem c162_2_k : enCtF c162_2 c162_2_e (pkP (c162_2_pts ++ []) [0]) (none) ((hOr (hWpop 7 6) (hWz 52 6)), noM, 1, 4503599627370624, 21) 3000 = true := by decide +kernel
set_option maxRecDepth 100000 in
theorem c162_2_k0 : ptCtF c162_2 c162_2_e (pkP (c162_2_pts ++ []) [0]) ((hOr (hWpop 7 6) (hWz 52 6)), noM, 1, 4503599627370624, 21) 3000 c162_2_p0 = true := by decide +kernel
set_option maxRecDepth 100000 in
theorem c162_2_v : ValidC PPk c162_2 := ct_ok fpk ⟨(hOr_ok (hWpop_ok 7 6) (hWz_ok 52 6)), noM_ok⟩ (d := 1) (ext := []) (pts := c162_2_pts) (env := c162_2_e) rfl (List.forall_mem_cons.mpr ⟨⟨c163_0_v, Nat.le_of_ble_eq_true rfl⟩, List.forall_mem_cons.mpr ⟨⟨c164_0_v, Nat.le_of_ble_eq_true rfl⟩, fun _ h => (by cases h)⟩⟩) ext_nil (fun q h => (by cases h)) (enF c162_2_k) (List.forall_mem_cons.mpr ⟨⟨_, ptF c162_2_k0⟩, fun _ h => (by cases h)⟩)

noncomputable def c167_3 : Ct := (167, 1, (23, (zt60 []), [], [qvR 0, qvK (.ofNat 2)], zh144, [(2, [1], []), (1, [1], []), (29, [6], [(sL 1), ((.ofNat 1), []), (sL 20), (sL 21), (sL 22)])]),
  [((23, [], [], [], zh145, [(2, [1], []), (1, [1], []), (29, [6], [((.ofNat 1), [(1, (.ofNat 1))]), ((.ofNat 1), []), (sL 20), (sL 21), ((.ofNat 6), [])])]), 0, 0)])
noncomputable def c167_3_e : List Ct := []
noncomputable def c167_3_pts : List PE := []
set_option maxRecDepth 100000 in
theorem c167_3_k : enCtF c167_3 c167_3_e (pkP (c167_3_pts ++ []) []) (none) (noF, (mWst 9), 0, 512, 23) 3000 = true := by decide +kernel
set_option maxRecDepth 100000 in
theorem c167_3_v : ValidC PPk c167_3 := ct_ok fpk ⟨noF_ok, (mWst_ok 9)⟩ (d := 0) (ext := []) (pts := c167_3_pts) (env := c167_3_e) rfl (fun _ h => (by cases h)) ext_nil (fun q h => (by cases h)) (enF c167_3_k) (fun _ h => (by cases h))

noncomputable def c167_4 : Ct := (167, 1, (23, (zt60 []), [], [qvR 0, qvK (.ofNat 13)], zh144, [(2, [1], []), (1, [1], []), (29, [6], [(sL 1), ((.ofNat 1), []), (sL 20), (sL 21), (sL 22)])]),
  [((23, [], [], [], zh145, [(2, [1], []), (1, [1], []), (29, [6], [((.ofNat 1), [(1, (.ofNat 1))]), ((.ofNat 2), []), ((.ofNat 0), [(20, (.ofNat 2)), (21, (.ofNat 1))]), ((.ofNat 0), []), ((.ofNat 0), [])])]), 0, 0)])
noncomputable def c167_4_e : List Ct := []
noncomputable def c167_4_pts : List PE := []
set_option maxRecDepth 100000 in
theorem c167_4_k : enCtF c167_4 c167_4_e (pkP (c167_4_pts ++ []) []) (none) (noF, (mWst 9), 0, 512, 23) 3000 = true := by decide +kernel
set_option maxRecDepth 100000 in
theorem c167_4_v : ValidC PPk c167_4 := ct_ok fpk ⟨noF_ok, (mWst_ok 9)⟩ (d := 0) (ext := []) (pts := c167_4_pts) (env := c167_4_e) rfl (fun _ h => (by cases h)) ext_nil (fun q h => (by cases h)) (enF c167_4_k) (fun _ h => (by cases h))

noncomputable def c167_5 : Ct := (167, 1, (23, (zt60 []), [], [qvR 0, qvK (.ofNat 3)], zh144, [(2, [1], []), (1, [1], []), (29, [6], [(sL 1), ((.ofNat 1), []), (sL 20), (sL 21), (sL 22)])]),
  [((23, [], [], [], zh145, [(2, [1], []), (1, [1], []), (29, [6], [((.ofNat 1), [(1, (.ofNat 1))]), ((.ofNat 1), []), (sL 20), (sL 21), ((.ofNat 6), [])])]), 0, 0)])
noncomputable def c167_5_e : List Ct := []
noncomputable def c167_5_pts : List PE := []
set_option maxRecDepth 100000 in
theorem c167_5_k : enCtF c167_5 c167_5_e (pkP (c167_5_pts ++ []) []) (none) (noF, (mWst 9), 0, 512, 23) 3000 = true := by decide +kernel
set_option maxRecDepth 100000 in
theorem c167_5_v : ValidC PPk c167_5 := ct_ok fpk ⟨noF_ok, (mWst_ok 9)⟩ (d := 0) (ext := []) (pts := c167_5_pts) (env := c167_5_e) rfl (fun _ h => (by cases h)) ext_nil (fun q h => (by cases h)) (enF c167_5_k) (fun _ h => (by cases h))

noncomputable def c162_3 : Ct := (162, 2, (21, (zt58 []), [((.negSucc 68), [(0, (.ofNat 1)), (1, (.ofNat 1))])], [qvR 0, qvK (.ofNat 6)], zh141, [(2, [1], []), (1, [1], []), (29, [6], [(sL 1), ((.ofNat 1), []), (sL 18), (sL 19), (sL 20)])]),
  [((23, [qtN 21 1 69, qtN 22 0 5], [((.ofNat 0), [(0, (.negSucc 0)), (1, (.negSucc 0)), (21, (.ofNat 1))]), ((.negSucc 68), [(0, (.ofNat 1)), (1, (.ofNat 1)), (21, (.negSucc 0))]), ((.negSucc 69), [(0, (.ofNat 1)), (1, (.ofNat 1)), (21, (.negSucc 0))]), ((.negSucc 69), [(0, (.ofNat 1)), (1, (.ofNat 1))]), ((.ofNat 0), [(1, (.negSucc 0)), (21, (.ofNat 1))]), ((.negSucc 0), [(1, (.negSucc 0)), (21, (.ofNat 1))])], [], zh143, [(2, [1], []), (1, [1], []), (29, [6], [(sL 21), ((.ofNat 1), []), (sL 18), (sL 19), (sL 22)])]), 0, 0)])
noncomputable def c162_3_e : List Ct := [c163_0, c164_0]
noncomputable def c162_3_p0 : PE := (0, [0, 1], (23, (zt61 []), [((.negSucc 68), [(0, (.ofNat 1)), (1, (.ofNat 1))]), ((.negSucc 69), [(0, (.ofNat 1)), (1, (.ofNat 1))]), ((.ofNat 0), [(0, (.negSucc 0)), (1, (.negSucc 0)), (21, (.ofNat 1))]), ((.negSucc 68), [(0, (.ofNat 1)), (1, (.ofNat 1)), (21, (.negSucc 0))]), ((.negSucc 69), [(0, (.ofNat 1)), (1, (.ofNat 1)), (21, (.negSucc 0))]), ((.ofNat 0), [(1, (.negSucc 0)), (21, (.ofNat 1))]), ((.negSucc 0), [(1, (.negSucc 0)), (21, (.ofNat 1))])], [qvR 0, qvK (.ofNat 6)], zh143, [(2, [1], []), (1, [1], []), (29, [6], [(sL 21), ((.ofNat 1), []), (sL 18), (sL 19), (sL 22)])]), symsL 21 0, some ((.ofNat 139), [(0, (.negSucc 0)), (1, (.negSucc 0)), (21, (.ofNat 1))]), 0, 0)
noncomputable def c162_3_pts : List PE := [c162_3_p0]
set_option maxRecDepth 100000 in
theorem c162_3_k : enCtF c162_3 c162_3_e (pkP (c162_3_pts ++ []) [0]) (none) ((hOr (hWpop 7 6) (hWz 52 6)), noM, 1, 4503599627370624, 21) 3000 = true := by decide +kernel
set_option maxRecDepth 100000 in
theorem c162_3_k0 : ptCtF c162_3 c162_3_e (pkP (c162_3_pts ++ []) [0]) ((hOr (hWpop 7 6) (hWz 52 6)), noM, 1, 4503599627370624, 21) 3000 c162_3_p0 = true := by decide +kernel
set_option maxRecDepth 100000 in
theorem c162_3_v : ValidC PPk c162_3 := ct_ok fpk ⟨(hOr_ok (hWpop_ok 7 6) (hWz_ok 52 6)), noM_ok⟩ (d := 1) (ext := []) (pts := c162_3_pts) (env := c162_3_e) rfl (List.forall_mem_cons.mpr ⟨⟨c163_0_v, Nat.le_of_ble_eq_true rfl⟩, List.forall_mem_cons.mpr ⟨⟨c164_0_v, Nat.le_of_ble_eq_true rfl⟩, fun _ h => (by cases h)⟩⟩) ext_nil (fun q h => (by cases h)) (enF c162_3_k) (List.forall_mem_cons.mpr ⟨⟨_, ptF c162_3_k0⟩, fun _ h => (by cases h)⟩)

noncomputable def c162_4 : Ct := (162, 2, (21, (zt58 []), [((.negSucc 68), [(0, (.ofNat 1)), (1, (.ofNat 1))])], [qvR 0, qvK (.ofNat 1)], zh141, [(2, [1], []), (1, [1], []), (29, [6], [(sL 1), ((.ofNat 2), []), (sL 18), (sL 19), (sL 20)])]),
  [((22, [qtN 21 1 69], [((.ofNat 0), [(0, (.negSucc 0)), (1, (.negSucc 0)), (21, (.ofNat 1))]), ((.negSucc 68), [(0, (.ofNat 1)), (1, (.ofNat 1)), (21, (.negSucc 0))]), ((.negSucc 69), [(0, (.ofNat 1)), (1, (.ofNat 1)), (21, (.negSucc 0))]), ((.negSucc 69), [(0, (.ofNat 1)), (1, (.ofNat 1))]), ((.ofNat 0), [(1, (.negSucc 0)), (21, (.ofNat 1))]), ((.negSucc 0), [(1, (.negSucc 0)), (21, (.ofNat 1))])], [], zh143, [(2, [1], []), (1, [1], []), (29, [6], [(sL 21), ((.ofNat 2), []), (sL 18), ((.ofNat 0), []), ((.ofNat 0), [])])]), 0, 0)])
noncomputable def c162_4_e : List Ct := [c163_0, c164_0]
noncomputable def c162_4_p0 : PE := (0, [0, 1], (24, (zt59 []), [((.negSucc 68), [(0, (.ofNat 1)), (1, (.ofNat 1))]), ((.negSucc 69), [(0, (.ofNat 1)), (1, (.ofNat 1))]), ((.ofNat 0), [(0, (.negSucc 0)), (1, (.negSucc 0)), (21, (.ofNat 1))]), ((.negSucc 68), [(0, (.ofNat 1)), (1, (.ofNat 1)), (21, (.negSucc 0))]), ((.negSucc 69), [(0, (.ofNat 1)), (1, (.ofNat 1)), (21, (.negSucc 0))]), ((.ofNat 0), [(1, (.negSucc 0)), (21, (.ofNat 1))]), ((.negSucc 0), [(1, (.negSucc 0)), (21, (.ofNat 1))])], [qvR 0, qvK (.ofNat 1)], zh143, [(2, [1], []), (1, [1], []), (29, [6], [(sL 21), ((.ofNat 2), []), (sL 18), (sL 22), (sL 23)])]), symsL 21 0, some ((.ofNat 139), [(0, (.negSucc 0)), (1, (.negSucc 0)), (21, (.ofNat 1))]), 0, 0)
noncomputable def c162_4_pts : List PE := [c162_4_p0]
set_option maxRecDepth 100000 in
theorem c162_4_k : enCtF c162_4 c162_4_e (pkP (c162_4_pts ++ []) [0]) (none) ((hOr (hWpop 7 6) (hWz 52 6)), noM, 1, 4503599627370624, 21) 3000 = true := by decide +kernel
set_option maxRecDepth 100000 in
theorem c162_4_k0 : ptCtF c162_4 c162_4_e (pkP (c162_4_pts ++ []) [0]) ((hOr (hWpop 7 6) (hWz 52 6)), noM, 1, 4503599627370624, 21) 3000 c162_4_p0 = true := by decide +kernel
set_option maxRecDepth 100000 in
theorem c162_4_v : ValidC PPk c162_4 := ct_ok fpk ⟨(hOr_ok (hWpop_ok 7 6) (hWz_ok 52 6)), noM_ok⟩ (d := 1) (ext := []) (pts := c162_4_pts) (env := c162_4_e) rfl (List.forall_mem_cons.mpr ⟨⟨c163_0_v, Nat.le_of_ble_eq_true rfl⟩, List.forall_mem_cons.mpr ⟨⟨c164_0_v, Nat.le_of_ble_eq_true rfl⟩, fun _ h => (by cases h)⟩⟩) ext_nil (fun q h => (by cases h)) (enF c162_4_k) (List.forall_mem_cons.mpr ⟨⟨_, ptF c162_4_k0⟩, fun _ h => (by cases h)⟩)

noncomputable def c167_6 : Ct := (167, 1, (23, (zt60 []), [], [qvR 0, qvK (.ofNat 2)], zh144, [(2, [1], []), (1, [1], []), (29, [6], [(sL 1), ((.ofNat 2), []), (sL 20), (sL 21), (sL 22)])]),
  [((23, [], [], [], zh145, [(2, [1], []), (1, [1], []), (29, [6], [((.ofNat 1), [(1, (.ofNat 1))]), ((.ofNat 2), []), (sL 20), (sL 21), ((.ofNat 6), [])])]), 0, 0)])
noncomputable def c167_6_e : List Ct := []
noncomputable def c167_6_pts : List PE := []
set_option maxRecDepth 100000 in
theorem c167_6_k : enCtF c167_6 c167_6_e (pkP (c167_6_pts ++ []) []) (none) (noF, (mWst 9), 0, 512, 23) 3000 = true := by decide +kernel
set_option maxRecDepth 100000 in
theorem c167_6_v : ValidC PPk c167_6 := ct_ok fpk ⟨noF_ok, (mWst_ok 9)⟩ (d := 0) (ext := []) (pts := c167_6_pts) (env := c167_6_e) rfl (fun _ h => (by cases h)) ext_nil (fun q h => (by cases h)) (enF c167_6_k) (fun _ h => (by cases h))

noncomputable def c167_7 : Ct := (167, 1, (23, (zt60 []), [], [qvR 0, qvK (.ofNat 13)], zh144, [(2, [1], []), (1, [1], []), (29, [6], [(sL 1), ((.ofNat 2), []), (sL 20), (sL 21), (sL 22)])]),
  [((23, [], [], [], zh145, [(2, [1], []), (1, [1], []), (29, [6], [((.ofNat 1), [(1, (.ofNat 1))]), ((.ofNat 3), []), ((.ofNat 0), [(20, (.ofNat 2)), (21, (.ofNat 1))]), ((.ofNat 0), []), ((.ofNat 0), [])])]), 0, 0)])
noncomputable def c167_7_e : List Ct := []
noncomputable def c167_7_pts : List PE := []
set_option maxRecDepth 100000 in
theorem c167_7_k : enCtF c167_7 c167_7_e (pkP (c167_7_pts ++ []) []) (none) (noF, (mWst 9), 0, 512, 23) 3000 = true := by decide +kernel
set_option maxRecDepth 100000 in
theorem c167_7_v : ValidC PPk c167_7 := ct_ok fpk ⟨noF_ok, (mWst_ok 9)⟩ (d := 0) (ext := []) (pts := c167_7_pts) (env := c167_7_e) rfl (fun _ h => (by cases h)) ext_nil (fun q h => (by cases h)) (enF c167_7_k) (fun _ h => (by cases h))

noncomputable def c167_8 : Ct := (167, 1, (23, (zt60 []), [], [qvR 0, qvK (.ofNat 3)], zh144, [(2, [1], []), (1, [1], []), (29, [6], [(sL 1), ((.ofNat 2), []), (sL 20), (sL 21), (sL 22)])]),
  [((23, [], [], [], zh145, [(2, [1], []), (1, [1], []), (29, [6], [((.ofNat 1), [(1, (.ofNat 1))]), ((.ofNat 2), []), (sL 20), (sL 21), ((.ofNat 6), [])])]), 0, 0)])
noncomputable def c167_8_e : List Ct := []
noncomputable def c167_8_pts : List PE := []
set_option maxRecDepth 100000 in
theorem c167_8_k : enCtF c167_8 c167_8_e (pkP (c167_8_pts ++ []) []) (none) (noF, (mWst 9), 0, 512, 23) 3000 = true := by decide +kernel
set_option maxRecDepth 100000 in
theorem c167_8_v : ValidC PPk c167_8 := ct_ok fpk ⟨noF_ok, (mWst_ok 9)⟩ (d := 0) (ext := []) (pts := c167_8_pts) (env := c167_8_e) rfl (fun _ h => (by cases h)) ext_nil (fun q h => (by cases h)) (enF c167_8_k) (fun _ h => (by cases h))

noncomputable def c162_5 : Ct := (162, 2, (21, (zt58 []), [((.negSucc 68), [(0, (.ofNat 1)), (1, (.ofNat 1))])], [qvR 0, qvK (.ofNat 6)], zh141, [(2, [1], []), (1, [1], []), (29, [6], [(sL 1), ((.ofNat 2), []), (sL 18), (sL 19), (sL 20)])]),
  [((23, [qtN 21 1 69, qtN 22 0 5], [((.ofNat 0), [(0, (.negSucc 0)), (1, (.negSucc 0)), (21, (.ofNat 1))]), ((.negSucc 68), [(0, (.ofNat 1)), (1, (.ofNat 1)), (21, (.negSucc 0))]), ((.negSucc 69), [(0, (.ofNat 1)), (1, (.ofNat 1)), (21, (.negSucc 0))]), ((.negSucc 69), [(0, (.ofNat 1)), (1, (.ofNat 1))]), ((.ofNat 0), [(1, (.negSucc 0)), (21, (.ofNat 1))]), ((.negSucc 0), [(1, (.negSucc 0)), (21, (.ofNat 1))])], [], zh143, [(2, [1], []), (1, [1], []), (29, [6], [(sL 21), ((.ofNat 2), []), (sL 18), (sL 19), (sL 22)])]), 0, 0)])
noncomputable def c162_5_e : List Ct := [c163_0, c164_0]
noncomputable def c162_5_p0 : PE := (0, [0, 1], (23, (zt61 []), [((.negSucc 68), [(0, (.ofNat 1)), (1, (.ofNat 1))]), ((.negSucc 69), [(0, (.ofNat 1)), (1, (.ofNat 1))]), ((.ofNat 0), [(0, (.negSucc 0)), (1, (.negSucc 0)), (21, (.ofNat 1))]), ((.negSucc 68), [(0, (.ofNat 1)), (1, (.ofNat 1)), (21, (.negSucc 0))]), ((.negSucc 69), [(0, (.ofNat 1)), (1, (.ofNat 1)), (21, (.negSucc 0))]), ((.ofNat 0), [(1, (.negSucc 0)), (21, (.ofNat 1))]), ((.negSucc 0), [(1, (.negSucc 0)), (21, (.ofNat 1))])], [qvR 0, qvK (.ofNat 6)], zh143, [(2, [1], []), (1, [1], []), (29, [6], [(sL 21), ((.ofNat 2), []), (sL 18), (sL 19), (sL 22)])]), symsL 21 0, some ((.ofNat 139), [(0, (.negSucc 0)), (1, (.negSucc 0)), (21, (.ofNat 1))]), 0, 0)
noncomputable def c162_5_pts : List PE := [c162_5_p0]
set_option maxRecDepth 100000 in
theorem c162_5_k : enCtF c162_5 c162_5_e (pkP (c162_5_pts ++ []) [0]) (none) ((hOr (hWpop 7 6) (hWz 52 6)), noM, 1, 4503599627370624, 21) 3000 = true := by decide +kernel
set_option maxRecDepth 100000 in
theorem c162_5_k0 : ptCtF c162_5 c162_5_e (pkP (c162_5_pts ++ []) [0]) ((hOr (hWpop 7 6) (hWz 52 6)), noM, 1, 4503599627370624, 21) 3000 c162_5_p0 = true := by decide +kernel
set_option maxRecDepth 100000 in
theorem c162_5_v : ValidC PPk c162_5 := ct_ok fpk ⟨(hOr_ok (hWpop_ok 7 6) (hWz_ok 52 6)), noM_ok⟩ (d := 1) (ext := []) (pts := c162_5_pts) (env := c162_5_e) rfl (List.forall_mem_cons.mpr ⟨⟨c163_0_v, Nat.le_of_ble_eq_true rfl⟩, List.forall_mem_cons.mpr ⟨⟨c164_0_v, Nat.le_of_ble_eq_true rfl⟩, fun _ h => (by cases h)⟩⟩) ext_nil (fun q h => (by cases h)) (enF c162_5_k) (List.forall_mem_cons.mpr ⟨⟨_, ptF c162_5_k0⟩, fun _ h => (by cases h)⟩)

noncomputable def c162_6 : Ct := (162, 2, (21, (zt58 []), [((.negSucc 68), [(0, (.ofNat 1)), (1, (.ofNat 1))])], [qvR 0, qvK (.ofNat 1)], zh141, [(2, [1], []), (1, [1], []), (29, [6], [(sL 1), ((.ofNat 3), []), (sL 18), (sL 19), (sL 20)])]),
  [((22, [qtN 21 1 69], [((.ofNat 0), [(0, (.negSucc 0)), (1, (.negSucc 0)), (21, (.ofNat 1))]), ((.negSucc 68), [(0, (.ofNat 1)), (1, (.ofNat 1)), (21, (.negSucc 0))]), ((.negSucc 69), [(0, (.ofNat 1)), (1, (.ofNat 1)), (21, (.negSucc 0))]), ((.negSucc 69), [(0, (.ofNat 1)), (1, (.ofNat 1))]), ((.ofNat 0), [(1, (.negSucc 0)), (21, (.ofNat 1))]), ((.negSucc 0), [(1, (.negSucc 0)), (21, (.ofNat 1))])], [], zh143, [(2, [1], []), (1, [1], []), (29, [6], [(sL 21), ((.ofNat 3), []), (sL 18), ((.ofNat 0), []), ((.ofNat 0), [])])]), 0, 0)])
noncomputable def c162_6_e : List Ct := [c163_0, c164_0]
noncomputable def c162_6_p0 : PE := (0, [0, 1], (24, (zt59 []), [((.negSucc 68), [(0, (.ofNat 1)), (1, (.ofNat 1))]), ((.negSucc 69), [(0, (.ofNat 1)), (1, (.ofNat 1))]), ((.ofNat 0), [(0, (.negSucc 0)), (1, (.negSucc 0)), (21, (.ofNat 1))]), ((.negSucc 68), [(0, (.ofNat 1)), (1, (.ofNat 1)), (21, (.negSucc 0))]), ((.negSucc 69), [(0, (.ofNat 1)), (1, (.ofNat 1)), (21, (.negSucc 0))]), ((.ofNat 0), [(1, (.negSucc 0)), (21, (.ofNat 1))]), ((.negSucc 0), [(1, (.negSucc 0)), (21, (.ofNat 1))])], [qvR 0, qvK (.ofNat 1)], zh143, [(2, [1], []), (1, [1], []), (29, [6], [(sL 21), ((.ofNat 3), []), (sL 18), (sL 22), (sL 23)])]), symsL 21 0, some ((.ofNat 139), [(0, (.negSucc 0)), (1, (.negSucc 0)), (21, (.ofNat 1))]), 0, 0)
noncomputable def c162_6_pts : List PE := [c162_6_p0]
set_option maxRecDepth 100000 in
theorem c162_6_k : enCtF c162_6 c162_6_e (pkP (c162_6_pts ++ []) [0]) (none) ((hOr (hWpop 7 6) (hWz 52 6)), noM, 1, 4503599627370624, 21) 3000 = true := by decide +kernel
set_option maxRecDepth 100000 in
theorem c162_6_k0 : ptCtF c162_6 c162_6_e (pkP (c162_6_pts ++ []) [0]) ((hOr (hWpop 7 6) (hWz 52 6)), noM, 1, 4503599627370624, 21) 3000 c162_6_p0 = true := by decide +kernel
set_option maxRecDepth 100000 in
theorem c162_6_v : ValidC PPk c162_6 := ct_ok fpk ⟨(hOr_ok (hWpop_ok 7 6) (hWz_ok 52 6)), noM_ok⟩ (d := 1) (ext := []) (pts := c162_6_pts) (env := c162_6_e) rfl (List.forall_mem_cons.mpr ⟨⟨c163_0_v, Nat.le_of_ble_eq_true rfl⟩, List.forall_mem_cons.mpr ⟨⟨c164_0_v, Nat.le_of_ble_eq_true rfl⟩, fun _ h => (by cases h)⟩⟩) ext_nil (fun q h => (by cases h)) (enF c162_6_k) (List.forall_mem_cons.mpr ⟨⟨_, ptF c162_6_k0⟩, fun _ h => (by cases h)⟩)

noncomputable def c167_9 : Ct := (167, 1, (23, (zt60 []), [], [qvR 0, qvK (.ofNat 2)], zh144, [(2, [1], []), (1, [1], []), (29, [6], [(sL 1), ((.ofNat 3), []), (sL 20), (sL 21), (sL 22)])]),
  [((23, [], [], [], zh145, [(2, [1], []), (1, [1], []), (29, [6], [((.ofNat 1), [(1, (.ofNat 1))]), ((.ofNat 3), []), (sL 20), (sL 21), ((.ofNat 6), [])])]), 0, 0)])
noncomputable def c167_9_e : List Ct := []
noncomputable def c167_9_pts : List PE := []
set_option maxRecDepth 100000 in
theorem c167_9_k : enCtF c167_9 c167_9_e (pkP (c167_9_pts ++ []) []) (none) (noF, (mWst 9), 0, 512, 23) 3000 = true := by decide +kernel
set_option maxRecDepth 100000 in
theorem c167_9_v : ValidC PPk c167_9 := ct_ok fpk ⟨noF_ok, (mWst_ok 9)⟩ (d := 0) (ext := []) (pts := c167_9_pts) (env := c167_9_e) rfl (fun _ h => (by cases h)) ext_nil (fun q h => (by cases h)) (enF c167_9_k) (fun _ h => (by cases h))

noncomputable def c167_10 : Ct := (167, 1, (23, (zt60 []), [], [qvR 0, qvK (.ofNat 13)], zh144, [(2, [1], []), (1, [1], []), (29, [6], [(sL 1), ((.ofNat 3), []), (sL 20), (sL 21), (sL 22)])]),
  [((23, [], [], [], zh145, [(2, [1], []), (1, [1], []), (29, [6], [((.ofNat 1), [(1, (.ofNat 1))]), ((.ofNat 4), []), ((.ofNat 0), [(20, (.ofNat 2)), (21, (.ofNat 1))]), ((.ofNat 0), []), ((.ofNat 0), [])])]), 0, 0)])
noncomputable def c167_10_e : List Ct := []
noncomputable def c167_10_pts : List PE := []
set_option maxRecDepth 100000 in
theorem c167_10_k : enCtF c167_10 c167_10_e (pkP (c167_10_pts ++ []) []) (none) (noF, (mWst 9), 0, 512, 23) 3000 = true := by decide +kernel
set_option maxRecDepth 100000 in
theorem c167_10_v : ValidC PPk c167_10 := ct_ok fpk ⟨noF_ok, (mWst_ok 9)⟩ (d := 0) (ext := []) (pts := c167_10_pts) (env := c167_10_e) rfl (fun _ h => (by cases h)) ext_nil (fun q h => (by cases h)) (enF c167_10_k) (fun _ h => (by cases h))

noncomputable def c167_11 : Ct := (167, 1, (23, (zt60 []), [], [qvR 0, qvK (.ofNat 3)], zh144, [(2, [1], []), (1, [1], []), (29, [6], [(sL 1), ((.ofNat 3), []), (sL 20), (sL 21), (sL 22)])]),
  [((23, [], [], [], zh145, [(2, [1], []), (1, [1], []), (29, [6], [((.ofNat 1), [(1, (.ofNat 1))]), ((.ofNat 3), []), (sL 20), (sL 21), ((.ofNat 6), [])])]), 0, 0)])
noncomputable def c167_11_e : List Ct := []
noncomputable def c167_11_pts : List PE := []
set_option maxRecDepth 100000 in
theorem c167_11_k : enCtF c167_11 c167_11_e (pkP (c167_11_pts ++ []) []) (none) (noF, (mWst 9), 0, 512, 23) 3000 = true := by decide +kernel
set_option maxRecDepth 100000 in
theorem c167_11_v : ValidC PPk c167_11 := ct_ok fpk ⟨noF_ok, (mWst_ok 9)⟩ (d := 0) (ext := []) (pts := c167_11_pts) (env := c167_11_e) rfl (fun _ h => (by cases h)) ext_nil (fun q h => (by cases h)) (enF c167_11_k) (fun _ h => (by cases h))

noncomputable def c162_7 : Ct := (162, 2, (21, (zt58 []), [((.negSucc 68), [(0, (.ofNat 1)), (1, (.ofNat 1))])], [qvR 0, qvK (.ofNat 6)], zh141, [(2, [1], []), (1, [1], []), (29, [6], [(sL 1), ((.ofNat 3), []), (sL 18), (sL 19), (sL 20)])]),
  [((23, [qtN 21 1 69, qtN 22 0 5], [((.ofNat 0), [(0, (.negSucc 0)), (1, (.negSucc 0)), (21, (.ofNat 1))]), ((.negSucc 68), [(0, (.ofNat 1)), (1, (.ofNat 1)), (21, (.negSucc 0))]), ((.negSucc 69), [(0, (.ofNat 1)), (1, (.ofNat 1)), (21, (.negSucc 0))]), ((.negSucc 69), [(0, (.ofNat 1)), (1, (.ofNat 1))]), ((.ofNat 0), [(1, (.negSucc 0)), (21, (.ofNat 1))]), ((.negSucc 0), [(1, (.negSucc 0)), (21, (.ofNat 1))])], [], zh143, [(2, [1], []), (1, [1], []), (29, [6], [(sL 21), ((.ofNat 3), []), (sL 18), (sL 19), (sL 22)])]), 0, 0)])
noncomputable def c162_7_e : List Ct := [c163_0, c164_0]
noncomputable def c162_7_p0 : PE := (0, [0, 1], (23, (zt61 []), [((.negSucc 68), [(0, (.ofNat 1)), (1, (.ofNat 1))]), ((.negSucc 69), [(0, (.ofNat 1)), (1, (.ofNat 1))]), ((.ofNat 0), [(0, (.negSucc 0)), (1, (.negSucc 0)), (21, (.ofNat 1))]), ((.negSucc 68), [(0, (.ofNat 1)), (1, (.ofNat 1)), (21, (.negSucc 0))]), ((.negSucc 69), [(0, (.ofNat 1)), (1, (.ofNat 1)), (21, (.negSucc 0))]), ((.ofNat 0), [(1, (.negSucc 0)), (21, (.ofNat 1))]), ((.negSucc 0), [(1, (.negSucc 0)), (21, (.ofNat 1))])], [qvR 0, qvK (.ofNat 6)], zh143, [(2, [1], []), (1, [1], []), (29, [6], [(sL 21), ((.ofNat 3), []), (sL 18), (sL 19), (sL 22)])]), symsL 21 0, some ((.ofNat 139), [(0, (.negSucc 0)), (1, (.negSucc 0)), (21, (.ofNat 1))]), 0, 0)
noncomputable def c162_7_pts : List PE := [c162_7_p0]
set_option maxRecDepth 100000 in
theorem c162_7_k : enCtF c162_7 c162_7_e (pkP (c162_7_pts ++ []) [0]) (none) ((hOr (hWpop 7 6) (hWz 52 6)), noM, 1, 4503599627370624, 21) 3000 = true := by decide +kernel
set_option maxRecDepth 100000 in
theorem c162_7_k0 : ptCtF c162_7 c162_7_e (pkP (c162_7_pts ++ []) [0]) ((hOr (hWpop 7 6) (hWz 52 6)), noM, 1, 4503599627370624, 21) 3000 c162_7_p0 = true := by decide +kernel
set_option maxRecDepth 100000 in
theorem c162_7_v : ValidC PPk c162_7 := ct_ok fpk ⟨(hOr_ok (hWpop_ok 7 6) (hWz_ok 52 6)), noM_ok⟩ (d := 1) (ext := []) (pts := c162_7_pts) (env := c162_7_e) rfl (List.forall_mem_cons.mpr ⟨⟨c163_0_v, Nat.le_of_ble_eq_true rfl⟩, List.forall_mem_cons.mpr ⟨⟨c164_0_v, Nat.le_of_ble_eq_true rfl⟩, fun _ h => (by cases h)⟩⟩) ext_nil (fun q h => (by cases h)) (enF c162_7_k) (List.forall_mem_cons.mpr ⟨⟨_, ptF c162_7_k0⟩, fun _ h => (by cases h)⟩)

noncomputable def c162_8 : Ct := (162, 2, (21, (zt58 []), [((.negSucc 68), [(0, (.ofNat 1)), (1, (.ofNat 1))])], [qvR 0, qvK (.ofNat 1)], zh141, [(2, [1], []), (1, [1], []), (29, [6], [(sL 1), ((.ofNat 4), []), (sL 18), (sL 19), (sL 20)])]),
  [((22, [qtN 21 1 69], [((.ofNat 0), [(0, (.negSucc 0)), (1, (.negSucc 0)), (21, (.ofNat 1))]), ((.negSucc 68), [(0, (.ofNat 1)), (1, (.ofNat 1)), (21, (.negSucc 0))]), ((.negSucc 69), [(0, (.ofNat 1)), (1, (.ofNat 1)), (21, (.negSucc 0))]), ((.negSucc 69), [(0, (.ofNat 1)), (1, (.ofNat 1))]), ((.ofNat 0), [(1, (.negSucc 0)), (21, (.ofNat 1))]), ((.negSucc 0), [(1, (.negSucc 0)), (21, (.ofNat 1))])], [], zh143, [(2, [1], []), (1, [1], []), (29, [6], [(sL 21), ((.ofNat 4), []), (sL 18), ((.ofNat 0), []), ((.ofNat 0), [])])]), 0, 0)])
noncomputable def c162_8_e : List Ct := [c163_0, c164_0]
noncomputable def c162_8_p0 : PE := (0, [0, 1], (24, (zt59 []), [((.negSucc 68), [(0, (.ofNat 1)), (1, (.ofNat 1))]), ((.negSucc 69), [(0, (.ofNat 1)), (1, (.ofNat 1))]), ((.ofNat 0), [(0, (.negSucc 0)), (1, (.negSucc 0)), (21, (.ofNat 1))]), ((.negSucc 68), [(0, (.ofNat 1)), (1, (.ofNat 1)), (21, (.negSucc 0))]), ((.negSucc 69), [(0, (.ofNat 1)), (1, (.ofNat 1)), (21, (.negSucc 0))]), ((.ofNat 0), [(1, (.negSucc 0)), (21, (.ofNat 1))]), ((.negSucc 0), [(1, (.negSucc 0)), (21, (.ofNat 1))])], [qvR 0, qvK (.ofNat 1)], zh143, [(2, [1], []), (1, [1], []), (29, [6], [(sL 21), ((.ofNat 4), []), (sL 18), (sL 22), (sL 23)])]), symsL 21 0, some ((.ofNat 139), [(0, (.negSucc 0)), (1, (.negSucc 0)), (21, (.ofNat 1))]), 0, 0)
noncomputable def c162_8_pts : List PE := [c162_8_p0]
set_option maxRecDepth 100000 in
theorem c162_8_k : enCtF c162_8 c162_8_e (pkP (c162_8_pts ++ []) [0]) (none) ((hOr (hWpop 7 6) (hWz 52 6)), noM, 1, 4503599627370624, 21) 3000 = true := by decide +kernel
set_option maxRecDepth 100000 in
theorem c162_8_k0 : ptCtF c162_8 c162_8_e (pkP (c162_8_pts ++ []) [0]) ((hOr (hWpop 7 6) (hWz 52 6)), noM, 1, 4503599627370624, 21) 3000 c162_8_p0 = true := by decide +kernel
set_option maxRecDepth 100000 in
theorem c162_8_v : ValidC PPk c162_8 := ct_ok fpk ⟨(hOr_ok (hWpop_ok 7 6) (hWz_ok 52 6)), noM_ok⟩ (d := 1) (ext := []) (pts := c162_8_pts) (env := c162_8_e) rfl (List.forall_mem_cons.mpr ⟨⟨c163_0_v, Nat.le_of_ble_eq_true rfl⟩, List.forall_mem_cons.mpr ⟨⟨c164_0_v, Nat.le_of_ble_eq_true rfl⟩, fun _ h => (by cases h)⟩⟩) ext_nil (fun q h => (by cases h)) (enF c162_8_k) (List.forall_mem_cons.mpr ⟨⟨_, ptF c162_8_k0⟩, fun _ h => (by cases h)⟩)

noncomputable def c167_12 : Ct := (167, 1, (23, (zt60 []), [], [qvR 0, qvK (.ofNat 2)], zh144, [(2, [1], []), (1, [1], []), (29, [6], [(sL 1), ((.ofNat 4), []), (sL 20), (sL 21), (sL 22)])]),
  [((23, [], [], [], zh145, [(2, [1], []), (1, [1], []), (29, [6], [((.ofNat 1), [(1, (.ofNat 1))]), ((.ofNat 4), []), (sL 20), (sL 21), ((.ofNat 6), [])])]), 0, 0)])
noncomputable def c167_12_e : List Ct := []
noncomputable def c167_12_pts : List PE := []
set_option maxRecDepth 100000 in
theorem c167_12_k : enCtF c167_12 c167_12_e (pkP (c167_12_pts ++ []) []) (none) (noF, (mWst 9), 0, 512, 23) 3000 = true := by decide +kernel
set_option maxRecDepth 100000 in
theorem c167_12_v : ValidC PPk c167_12 := ct_ok fpk ⟨noF_ok, (mWst_ok 9)⟩ (d := 0) (ext := []) (pts := c167_12_pts) (env := c167_12_e) rfl (fun _ h => (by cases h)) ext_nil (fun q h => (by cases h)) (enF c167_12_k) (fun _ h => (by cases h))

noncomputable def c167_13 : Ct := (167, 1, (23, (zt60 []), [], [qvR 0, qvK (.ofNat 13)], zh144, [(2, [1], []), (1, [1], []), (29, [6], [(sL 1), ((.ofNat 4), []), (sL 20), (sL 21), (sL 22)])]),
  [((23, [], [], [], zh145, [(2, [1], []), (1, [1], []), (29, [6], [((.ofNat 1), [(1, (.ofNat 1))]), ((.ofNat 5), []), ((.ofNat 0), [(20, (.ofNat 2)), (21, (.ofNat 1))]), ((.ofNat 0), []), ((.ofNat 0), [])])]), 0, 0)])
noncomputable def c167_13_e : List Ct := []
noncomputable def c167_13_pts : List PE := []
set_option maxRecDepth 100000 in
theorem c167_13_k : enCtF c167_13 c167_13_e (pkP (c167_13_pts ++ []) []) (none) (noF, (mWst 9), 0, 512, 23) 3000 = true := by decide +kernel
set_option maxRecDepth 100000 in
theorem c167_13_v : ValidC PPk c167_13 := ct_ok fpk ⟨noF_ok, (mWst_ok 9)⟩ (d := 0) (ext := []) (pts := c167_13_pts) (env := c167_13_e) rfl (fun _ h => (by cases h)) ext_nil (fun q h => (by cases h)) (enF c167_13_k) (fun _ h => (by cases h))

noncomputable def c167_14 : Ct := (167, 1, (23, (zt60 []), [], [qvR 0, qvK (.ofNat 3)], zh144, [(2, [1], []), (1, [1], []), (29, [6], [(sL 1), ((.ofNat 4), []), (sL 20), (sL 21), (sL 22)])]),
  [((23, [], [], [], zh145, [(2, [1], []), (1, [1], []), (29, [6], [((.ofNat 1), [(1, (.ofNat 1))]), ((.ofNat 4), []), (sL 20), (sL 21), ((.ofNat 6), [])])]), 0, 0)])
noncomputable def c167_14_e : List Ct := []
noncomputable def c167_14_pts : List PE := []
set_option maxRecDepth 100000 in
theorem c167_14_k : enCtF c167_14 c167_14_e (pkP (c167_14_pts ++ []) []) (none) (noF, (mWst 9), 0, 512, 23) 3000 = true := by decide +kernel
set_option maxRecDepth 100000 in
theorem c167_14_v : ValidC PPk c167_14 := ct_ok fpk ⟨noF_ok, (mWst_ok 9)⟩ (d := 0) (ext := []) (pts := c167_14_pts) (env := c167_14_e) rfl (fun _ h => (by cases h)) ext_nil (fun q h => (by cases h)) (enF c167_14_k) (fun _ h => (by cases h))

noncomputable def c162_9 : Ct := (162, 2, (21, (zt58 []), [((.negSucc 68), [(0, (.ofNat 1)), (1, (.ofNat 1))])], [qvR 0, qvK (.ofNat 6)], zh141, [(2, [1], []), (1, [1], []), (29, [6], [(sL 1), ((.ofNat 4), []), (sL 18), (sL 19), (sL 20)])]),
  [((23, [qtN 21 1 69, qtN 22 0 5], [((.ofNat 0), [(0, (.negSucc 0)), (1, (.negSucc 0)), (21, (.ofNat 1))]), ((.negSucc 68), [(0, (.ofNat 1)), (1, (.ofNat 1)), (21, (.negSucc 0))]), ((.negSucc 69), [(0, (.ofNat 1)), (1, (.ofNat 1)), (21, (.negSucc 0))]), ((.negSucc 69), [(0, (.ofNat 1)), (1, (.ofNat 1))]), ((.ofNat 0), [(1, (.negSucc 0)), (21, (.ofNat 1))]), ((.negSucc 0), [(1, (.negSucc 0)), (21, (.ofNat 1))])], [], zh143, [(2, [1], []), (1, [1], []), (29, [6], [(sL 21), ((.ofNat 4), []), (sL 18), (sL 19), (sL 22)])]), 0, 0)])
noncomputable def c162_9_e : List Ct := [c163_0, c164_0]
noncomputable def c162_9_p0 : PE := (0, [0, 1], (23, (zt61 []), [((.negSucc 68), [(0, (.ofNat 1)), (1, (.ofNat 1))]), ((.negSucc 69), [(0, (.ofNat 1)), (1, (.ofNat 1))]), ((.ofNat 0), [(0, (.negSucc 0)), (1, (.negSucc 0)), (21, (.ofNat 1))]), ((.negSucc 68), [(0, (.ofNat 1)), (1, (.ofNat 1)), (21, (.negSucc 0))]), ((.negSucc 69), [(0, (.ofNat 1)), (1, (.ofNat 1)), (21, (.negSucc 0))]), ((.ofNat 0), [(1, (.negSucc 0)), (21, (.ofNat 1))]), ((.negSucc 0), [(1, (.negSucc 0)), (21, (.ofNat 1))])], [qvR 0, qvK (.ofNat 6)], zh143, [(2, [1], []), (1, [1], []), (29, [6], [(sL 21), ((.ofNat 4), []), (sL 18), (sL 19), (sL 22)])]), symsL 21 0, some ((.ofNat 139), [(0, (.negSucc 0)), (1, (.negSucc 0)), (21, (.ofNat 1))]), 0, 0)
noncomputable def c162_9_pts : List PE := [c162_9_p0]
set_option maxRecDepth 100000 in
theorem c162_9_k : enCtF c162_9 c162_9_e (pkP (c162_9_pts ++ []) [0]) (none) ((hOr (hWpop 7 6) (hWz 52 6)), noM, 1, 4503599627370624, 21) 3000 = true := by decide +kernel
set_option maxRecDepth 100000 in
theorem c162_9_k0 : ptCtF c162_9 c162_9_e (pkP (c162_9_pts ++ []) [0]) ((hOr (hWpop 7 6) (hWz 52 6)), noM, 1, 4503599627370624, 21) 3000 c162_9_p0 = true := by decide +kernel
set_option maxRecDepth 100000 in
theorem c162_9_v : ValidC PPk c162_9 := ct_ok fpk ⟨(hOr_ok (hWpop_ok 7 6) (hWz_ok 52 6)), noM_ok⟩ (d := 1) (ext := []) (pts := c162_9_pts) (env := c162_9_e) rfl (List.forall_mem_cons.mpr ⟨⟨c163_0_v, Nat.le_of_ble_eq_true rfl⟩, List.forall_mem_cons.mpr ⟨⟨c164_0_v, Nat.le_of_ble_eq_true rfl⟩, fun _ h => (by cases h)⟩⟩) ext_nil (fun q h => (by cases h)) (enF c162_9_k) (List.forall_mem_cons.mpr ⟨⟨_, ptF c162_9_k0⟩, fun _ h => (by cases h)⟩)

noncomputable def c162_10 : Ct := (162, 2, (21, (zt58 []), [((.negSucc 68), [(0, (.ofNat 1)), (1, (.ofNat 1))])], [qvR 0, qvK (.ofNat 1)], zh141, [(2, [1], []), (1, [1], []), (29, [6], [(sL 1), ((.ofNat 5), []), (sL 18), (sL 19), (sL 20)])]),
  [((22, [qtN 21 1 69], [((.ofNat 0), [(0, (.negSucc 0)), (1, (.negSucc 0)), (21, (.ofNat 1))]), ((.negSucc 68), [(0, (.ofNat 1)), (1, (.ofNat 1)), (21, (.negSucc 0))]), ((.negSucc 69), [(0, (.ofNat 1)), (1, (.ofNat 1)), (21, (.negSucc 0))]), ((.negSucc 69), [(0, (.ofNat 1)), (1, (.ofNat 1))]), ((.ofNat 0), [(1, (.negSucc 0)), (21, (.ofNat 1))]), ((.negSucc 0), [(1, (.negSucc 0)), (21, (.ofNat 1))])], [], zh143, [(2, [1], []), (1, [1], []), (29, [6], [(sL 21), ((.ofNat 5), []), (sL 18), ((.ofNat 0), []), ((.ofNat 0), [])])]), 0, 0)])
noncomputable def c162_10_e : List Ct := [c163_0, c164_0]
noncomputable def c162_10_p0 : PE := (0, [0, 1], (24, (zt59 []), [((.negSucc 68), [(0, (.ofNat 1)), (1, (.ofNat 1))]), ((.negSucc 69), [(0, (.ofNat 1)), (1, (.ofNat 1))]), ((.ofNat 0), [(0, (.negSucc 0)), (1, (.negSucc 0)), (21, (.ofNat 1))]), ((.negSucc 68), [(0, (.ofNat 1)), (1, (.ofNat 1)), (21, (.negSucc 0))]), ((.negSucc 69), [(0, (.ofNat 1)), (1, (.ofNat 1)), (21, (.negSucc 0))]), ((.ofNat 0), [(1, (.negSucc 0)), (21, (.ofNat 1))]), ((.negSucc 0), [(1, (.negSucc 0)), (21, (.ofNat 1))])], [qvR 0, qvK (.ofNat 1)], zh143, [(2, [1], []), (1, [1], []), (29, [6], [(sL 21), ((.ofNat 5), []), (sL 18), (sL 22), (sL 23)])]), symsL 21 0, some ((.ofNat 139), [(0, (.negSucc 0)), (1, (.negSucc 0)), (21, (.ofNat 1))]), 0, 0)
noncomputable def c162_10_pts : List PE := [c162_10_p0]
set_option maxRecDepth 100000 in
theorem c162_10_k : enCtF c162_10 c162_10_e (pkP (c162_10_pts ++ []) [0]) (none) ((hOr (hWpop 7 6) (hWz 52 6)), noM, 1, 4503599627370624, 21) 3000 = true := by decide +kernel
set_option maxRecDepth 100000 in
theorem c162_10_k0 : ptCtF c162_10 c162_10_e (pkP (c162_10_pts ++ []) [0]) ((hOr (hWpop 7 6) (hWz 52 6)), noM, 1, 4503599627370624, 21) 3000 c162_10_p0 = true := by decide +kernel
set_option maxRecDepth 100000 in
theorem c162_10_v : ValidC PPk c162_10 := ct_ok fpk ⟨(hOr_ok (hWpop_ok 7 6) (hWz_ok 52 6)), noM_ok⟩ (d := 1) (ext := []) (pts := c162_10_pts) (env := c162_10_e) rfl (List.forall_mem_cons.mpr ⟨⟨c163_0_v, Nat.le_of_ble_eq_true rfl⟩, List.forall_mem_cons.mpr ⟨⟨c164_0_v, Nat.le_of_ble_eq_true rfl⟩, fun _ h => (by cases h)⟩⟩) ext_nil (fun q h => (by cases h)) (enF c162_10_k) (List.forall_mem_cons.mpr ⟨⟨_, ptF c162_10_k0⟩, fun _ h => (by cases h)⟩)

noncomputable def c167_15 : Ct := (167, 1, (23, (zt60 []), [], [qvR 0, qvK (.ofNat 2)], zh144, [(2, [1], []), (1, [1], []), (29, [6], [(sL 1), ((.ofNat 5), []), (sL 20), (sL 21), (sL 22)])]),
  [((23, [], [], [], zh145, [(2, [1], []), (1, [1], []), (29, [6], [((.ofNat 1), [(1, (.ofNat 1))]), ((.ofNat 5), []), (sL 20), (sL 21), ((.ofNat 6), [])])]), 0, 0)])
noncomputable def c167_15_e : List Ct := []
noncomputable def c167_15_pts : List PE := []
set_option maxRecDepth 100000 in
theorem c167_15_k : enCtF c167_15 c167_15_e (pkP (c167_15_pts ++ []) []) (none) (noF, (mWst 9), 0, 512, 23) 3000 = true := by decide +kernel
set_option maxRecDepth 100000 in
theorem c167_15_v : ValidC PPk c167_15 := ct_ok fpk ⟨noF_ok, (mWst_ok 9)⟩ (d := 0) (ext := []) (pts := c167_15_pts) (env := c167_15_e) rfl (fun _ h => (by cases h)) ext_nil (fun q h => (by cases h)) (enF c167_15_k) (fun _ h => (by cases h))

noncomputable def c167_16 : Ct := (167, 1, (23, (zt60 []), [], [qvR 0, qvK (.ofNat 13)], zh144, [(2, [1], []), (1, [1], []), (29, [6], [(sL 1), ((.ofNat 5), []), (sL 20), (sL 21), (sL 22)])]),
  [((23, [], [], [], zh145, [(2, [1], []), (1, [1], []), (29, [6], [((.ofNat 1), [(1, (.ofNat 1))]), ((.ofNat 6), []), ((.ofNat 0), [(20, (.ofNat 2)), (21, (.ofNat 1))]), ((.ofNat 0), []), ((.ofNat 0), [])])]), 0, 0)])
noncomputable def c167_16_e : List Ct := []
noncomputable def c167_16_pts : List PE := []
set_option maxRecDepth 100000 in
theorem c167_16_k : enCtF c167_16 c167_16_e (pkP (c167_16_pts ++ []) []) (none) (noF, (mWst 9), 0, 512, 23) 3000 = true := by decide +kernel
set_option maxRecDepth 100000 in
theorem c167_16_v : ValidC PPk c167_16 := ct_ok fpk ⟨noF_ok, (mWst_ok 9)⟩ (d := 0) (ext := []) (pts := c167_16_pts) (env := c167_16_e) rfl (fun _ h => (by cases h)) ext_nil (fun q h => (by cases h)) (enF c167_16_k) (fun _ h => (by cases h))

noncomputable def c167_17 : Ct := (167, 1, (23, (zt60 []), [], [qvR 0, qvK (.ofNat 3)], zh144, [(2, [1], []), (1, [1], []), (29, [6], [(sL 1), ((.ofNat 5), []), (sL 20), (sL 21), (sL 22)])]),
  [((23, [], [], [], zh145, [(2, [1], []), (1, [1], []), (29, [6], [((.ofNat 1), [(1, (.ofNat 1))]), ((.ofNat 5), []), (sL 20), (sL 21), ((.ofNat 6), [])])]), 0, 0)])
noncomputable def c167_17_e : List Ct := []
noncomputable def c167_17_pts : List PE := []
set_option maxRecDepth 100000 in
theorem c167_17_k : enCtF c167_17 c167_17_e (pkP (c167_17_pts ++ []) []) (none) (noF, (mWst 9), 0, 512, 23) 3000 = true := by decide +kernel
set_option maxRecDepth 100000 in
theorem c167_17_v : ValidC PPk c167_17 := ct_ok fpk ⟨noF_ok, (mWst_ok 9)⟩ (d := 0) (ext := []) (pts := c167_17_pts) (env := c167_17_e) rfl (fun _ h => (by cases h)) ext_nil (fun q h => (by cases h)) (enF c167_17_k) (fun _ h => (by cases h))

noncomputable def c162_11 : Ct := (162, 2, (21, (zt58 []), [((.negSucc 68), [(0, (.ofNat 1)), (1, (.ofNat 1))])], [qvR 0, qvK (.ofNat 6)], zh141, [(2, [1], []), (1, [1], []), (29, [6], [(sL 1), ((.ofNat 5), []), (sL 18), (sL 19), (sL 20)])]),
  [((23, [qtN 21 1 69, qtN 22 0 5], [((.ofNat 0), [(0, (.negSucc 0)), (1, (.negSucc 0)), (21, (.ofNat 1))]), ((.negSucc 68), [(0, (.ofNat 1)), (1, (.ofNat 1)), (21, (.negSucc 0))]), ((.negSucc 69), [(0, (.ofNat 1)), (1, (.ofNat 1)), (21, (.negSucc 0))]), ((.negSucc 69), [(0, (.ofNat 1)), (1, (.ofNat 1))]), ((.ofNat 0), [(1, (.negSucc 0)), (21, (.ofNat 1))]), ((.negSucc 0), [(1, (.negSucc 0)), (21, (.ofNat 1))])], [], zh143, [(2, [1], []), (1, [1], []), (29, [6], [(sL 21), ((.ofNat 5), []), (sL 18), (sL 19), (sL 22)])]), 0, 0)])
noncomputable def c162_11_e : List Ct := [c163_0, c164_0]
noncomputable def c162_11_p0 : PE := (0, [0, 1], (23, (zt61 []), [((.negSucc 68), [(0, (.ofNat 1)), (1, (.ofNat 1))]), ((.negSucc 69), [(0, (.ofNat 1)), (1, (.ofNat 1))]), ((.ofNat 0), [(0, (.negSucc 0)), (1, (.negSucc 0)), (21, (.ofNat 1))]), ((.negSucc 68), [(0, (.ofNat 1)), (1, (.ofNat 1)), (21, (.negSucc 0))]), ((.negSucc 69), [(0, (.ofNat 1)), (1, (.ofNat 1)), (21, (.negSucc 0))]), ((.ofNat 0), [(1, (.negSucc 0)), (21, (.ofNat 1))]), ((.negSucc 0), [(1, (.negSucc 0)), (21, (.ofNat 1))])], [qvR 0, qvK (.ofNat 6)], zh143, [(2, [1], []), (1, [1], []), (29, [6], [(sL 21), ((.ofNat 5), []), (sL 18), (sL 19), (sL 22)])]), symsL 21 0, some ((.ofNat 139), [(0, (.negSucc 0)), (1, (.negSucc 0)), (21, (.ofNat 1))]), 0, 0)
noncomputable def c162_11_pts : List PE := [c162_11_p0]
set_option maxRecDepth 100000 in
theorem c162_11_k : enCtF c162_11 c162_11_e (pkP (c162_11_pts ++ []) [0]) (none) ((hOr (hWpop 7 6) (hWz 52 6)), noM, 1, 4503599627370624, 21) 3000 = true := by decide +kernel
set_option maxRecDepth 100000 in
theorem c162_11_k0 : ptCtF c162_11 c162_11_e (pkP (c162_11_pts ++ []) [0]) ((hOr (hWpop 7 6) (hWz 52 6)), noM, 1, 4503599627370624, 21) 3000 c162_11_p0 = true := by decide +kernel
set_option maxRecDepth 100000 in
theorem c162_11_v : ValidC PPk c162_11 := ct_ok fpk ⟨(hOr_ok (hWpop_ok 7 6) (hWz_ok 52 6)), noM_ok⟩ (d := 1) (ext := []) (pts := c162_11_pts) (env := c162_11_e) rfl (List.forall_mem_cons.mpr ⟨⟨c163_0_v, Nat.le_of_ble_eq_true rfl⟩, List.forall_mem_cons.mpr ⟨⟨c164_0_v, Nat.le_of_ble_eq_true rfl⟩, fun _ h => (by cases h)⟩⟩) ext_nil (fun q h => (by cases h)) (enF c162_11_k) (List.forall_mem_cons.mpr ⟨⟨_, ptF c162_11_k0⟩, fun _ h => (by cases h)⟩)

noncomputable def c162_12 : Ct := (162, 2, (21, (zt58 []), [((.negSucc 68), [(0, (.ofNat 1)), (1, (.ofNat 1))])], [qvR 0, qvK (.ofNat 1)], zh141, [(2, [1], []), (1, [1], []), (29, [6], [(sL 1), ((.ofNat 6), []), (sL 18), (sL 19), (sL 20)])]),
  [((22, [qtN 21 1 69], [((.ofNat 0), [(0, (.negSucc 0)), (1, (.negSucc 0)), (21, (.ofNat 1))]), ((.negSucc 68), [(0, (.ofNat 1)), (1, (.ofNat 1)), (21, (.negSucc 0))]), ((.negSucc 69), [(0, (.ofNat 1)), (1, (.ofNat 1)), (21, (.negSucc 0))]), ((.negSucc 69), [(0, (.ofNat 1)), (1, (.ofNat 1))]), ((.ofNat 0), [(1, (.negSucc 0)), (21, (.ofNat 1))]), ((.negSucc 0), [(1, (.negSucc 0)), (21, (.ofNat 1))])], [], zh143, [(2, [1], []), (1, [1], []), (29, [6], [(sL 21), ((.ofNat 6), []), (sL 18), ((.ofNat 0), []), ((.ofNat 0), [])])]), 0, 0)])
noncomputable def c162_12_e : List Ct := [c163_0, c164_0]
noncomputable def c162_12_p0 : PE := (0, [0, 1], (24, (zt59 []), [((.negSucc 68), [(0, (.ofNat 1)), (1, (.ofNat 1))]), ((.negSucc 69), [(0, (.ofNat 1)), (1, (.ofNat 1))]), ((.ofNat 0), [(0, (.negSucc 0)), (1, (.negSucc 0)), (21, (.ofNat 1))]), ((.negSucc 68), [(0, (.ofNat 1)), (1, (.ofNat 1)), (21, (.negSucc 0))]), ((.negSucc 69), [(0, (.ofNat 1)), (1, (.ofNat 1)), (21, (.negSucc 0))]), ((.ofNat 0), [(1, (.negSucc 0)), (21, (.ofNat 1))]), ((.negSucc 0), [(1, (.negSucc 0)), (21, (.ofNat 1))])], [qvR 0, qvK (.ofNat 1)], zh143, [(2, [1], []), (1, [1], []), (29, [6], [(sL 21), ((.ofNat 6), []), (sL 18), (sL 22), (sL 23)])]), symsL 21 0, some ((.ofNat 139), [(0, (.negSucc 0)), (1, (.negSucc 0)), (21, (.ofNat 1))]), 0, 0)
noncomputable def c162_12_pts : List PE := [c162_12_p0]
set_option maxRecDepth 100000 in
theorem c162_12_k : enCtF c162_12 c162_12_e (pkP (c162_12_pts ++ []) [0]) (none) ((hOr (hWpop 7 6) (hWz 52 6)), noM, 1, 4503599627370624, 21) 3000 = true := by decide +kernel
set_option maxRecDepth 100000 in
theorem c162_12_k0 : ptCtF c162_12 c162_12_e (pkP (c162_12_pts ++ []) [0]) ((hOr (hWpop 7 6) (hWz 52 6)), noM, 1, 4503599627370624, 21) 3000 c162_12_p0 = true := by decide +kernel
set_option maxRecDepth 100000 in
theorem c162_12_v : ValidC PPk c162_12 := ct_ok fpk ⟨(hOr_ok (hWpop_ok 7 6) (hWz_ok 52 6)), noM_ok⟩ (d := 1) (ext := []) (pts := c162_12_pts) (env := c162_12_e) rfl (List.forall_mem_cons.mpr ⟨⟨c163_0_v, Nat.le_of_ble_eq_true rfl⟩, List.forall_mem_cons.mpr ⟨⟨c164_0_v, Nat.le_of_ble_eq_true rfl⟩, fun _ h => (by cases h)⟩⟩) ext_nil (fun q h => (by cases h)) (enF c162_12_k) (List.forall_mem_cons.mpr ⟨⟨_, ptF c162_12_k0⟩, fun _ h => (by cases h)⟩)

noncomputable def c167_18 : Ct := (167, 1, (23, (zt60 []), [], [qvR 0, qvK (.ofNat 2)], zh144, [(2, [1], []), (1, [1], []), (29, [6], [(sL 1), ((.ofNat 6), []), (sL 20), (sL 21), (sL 22)])]),
  [((23, [], [], [], zh145, [(2, [1], []), (1, [1], []), (29, [6], [((.ofNat 1), [(1, (.ofNat 1))]), ((.ofNat 6), []), (sL 20), (sL 21), ((.ofNat 6), [])])]), 0, 0)])
noncomputable def c167_18_e : List Ct := []
noncomputable def c167_18_pts : List PE := []
set_option maxRecDepth 100000 in
theorem c167_18_k : enCtF c167_18 c167_18_e (pkP (c167_18_pts ++ []) []) (none) (noF, (mWst 9), 0, 512, 23) 3000 = true := by decide +kernel
set_option maxRecDepth 100000 in
theorem c167_18_v : ValidC PPk c167_18 := ct_ok fpk ⟨noF_ok, (mWst_ok 9)⟩ (d := 0) (ext := []) (pts := c167_18_pts) (env := c167_18_e) rfl (fun _ h => (by cases h)) ext_nil (fun q h => (by cases h)) (enF c167_18_k) (fun _ h => (by cases h))

noncomputable def c167_19 : Ct := (167, 1, (23, (zt60 []), [], [qvR 0, qvK (.ofNat 13)], zh144, [(2, [1], []), (1, [1], []), (29, [6], [(sL 1), ((.ofNat 6), []), (sL 20), (sL 21), (sL 22)])]),
  [((23, [], [], [], zh145, [(2, [1], []), (1, [1], []), (29, [6], [((.ofNat 1), [(1, (.ofNat 1))]), ((.ofNat 7), []), ((.ofNat 0), [(20, (.ofNat 2)), (21, (.ofNat 1))]), ((.ofNat 0), []), ((.ofNat 0), [])])]), 0, 0)])
noncomputable def c167_19_e : List Ct := []
noncomputable def c167_19_pts : List PE := []
set_option maxRecDepth 100000 in
theorem c167_19_k : enCtF c167_19 c167_19_e (pkP (c167_19_pts ++ []) []) (none) (noF, (mWst 9), 0, 512, 23) 3000 = true := by decide +kernel
set_option maxRecDepth 100000 in
theorem c167_19_v : ValidC PPk c167_19 := ct_ok fpk ⟨noF_ok, (mWst_ok 9)⟩ (d := 0) (ext := []) (pts := c167_19_pts) (env := c167_19_e) rfl (fun _ h => (by cases h)) ext_nil (fun q h => (by cases h)) (enF c167_19_k) (fun _ h => (by cases h))

noncomputable def c167_20 : Ct := (167, 1, (23, (zt60 []), [], [qvR 0, qvK (.ofNat 3)], zh144, [(2, [1], []), (1, [1], []), (29, [6], [(sL 1), ((.ofNat 6), []), (sL 20), (sL 21), (sL 22)])]),
  [((23, [], [], [], zh145, [(2, [1], []), (1, [1], []), (29, [6], [((.ofNat 1), [(1, (.ofNat 1))]), ((.ofNat 6), []), (sL 20), (sL 21), ((.ofNat 6), [])])]), 0, 0)])
noncomputable def c167_20_e : List Ct := []
noncomputable def c167_20_pts : List PE := []
set_option maxRecDepth 100000 in
theorem c167_20_k : enCtF c167_20 c167_20_e (pkP (c167_20_pts ++ []) []) (none) (noF, (mWst 9), 0, 512, 23) 3000 = true := by decide +kernel
set_option maxRecDepth 100000 in
theorem c167_20_v : ValidC PPk c167_20 := ct_ok fpk ⟨noF_ok, (mWst_ok 9)⟩ (d := 0) (ext := []) (pts := c167_20_pts) (env := c167_20_e) rfl (fun _ h => (by cases h)) ext_nil (fun q h => (by cases h)) (enF c167_20_k) (fun _ h => (by cases h))

noncomputable def c162_13 : Ct := (162, 2, (21, (zt58 []), [((.negSucc 68), [(0, (.ofNat 1)), (1, (.ofNat 1))])], [qvR 0, qvK (.ofNat 6)], zh141, [(2, [1], []), (1, [1], []), (29, [6], [(sL 1), ((.ofNat 6), []), (sL 18), (sL 19), (sL 20)])]),
  [((23, [qtN 21 1 69, qtN 22 0 5], [((.ofNat 0), [(0, (.negSucc 0)), (1, (.negSucc 0)), (21, (.ofNat 1))]), ((.negSucc 68), [(0, (.ofNat 1)), (1, (.ofNat 1)), (21, (.negSucc 0))]), ((.negSucc 69), [(0, (.ofNat 1)), (1, (.ofNat 1)), (21, (.negSucc 0))]), ((.negSucc 69), [(0, (.ofNat 1)), (1, (.ofNat 1))]), ((.ofNat 0), [(1, (.negSucc 0)), (21, (.ofNat 1))]), ((.negSucc 0), [(1, (.negSucc 0)), (21, (.ofNat 1))])], [], zh143, [(2, [1], []), (1, [1], []), (29, [6], [(sL 21), ((.ofNat 6), []), (sL 18), (sL 19), (sL 22)])]), 0, 0)])
noncomputable def c162_13_e : List Ct := [c163_0, c164_0]
noncomputable def c162_13_p0 : PE := (0, [0, 1], (23, (zt61 []), [((.negSucc 68), [(0, (.ofNat 1)), (1, (.ofNat 1))]), ((.negSucc 69), [(0, (.ofNat 1)), (1, (.ofNat 1))]), ((.ofNat 0), [(0, (.negSucc 0)), (1, (.negSucc 0)), (21, (.ofNat 1))]), ((.negSucc 68), [(0, (.ofNat 1)), (1, (.ofNat 1)), (21, (.negSucc 0))]), ((.negSucc 69), [(0, (.ofNat 1)), (1, (.ofNat 1)), (21, (.negSucc 0))]), ((.ofNat 0), [(1, (.negSucc 0)), (21, (.ofNat 1))]), ((.negSucc 0), [(1, (.negSucc 0)), (21, (.ofNat 1))])], [qvR 0, qvK (.ofNat 6)], zh143, [(2, [1], []), (1, [1], []), (29, [6], [(sL 21), ((.ofNat 6), []), (sL 18), (sL 19), (sL 22)])]), symsL 21 0, some ((.ofNat 139), [(0, (.negSucc 0)), (1, (.negSucc 0)), (21, (.ofNat 1))]), 0, 0)
noncomputable def c162_13_pts : List PE := [c162_13_p0]
set_option maxRecDepth 100000 in
theorem c162_13_k : enCtF c162_13 c162_13_e (pkP (c162_13_pts ++ []) [0]) (none) ((hOr (hWpop 7 6) (hWz 52 6)), noM, 1, 4503599627370624, 21) 3000 = true := by decide +kernel
set_option maxRecDepth 100000 in
theorem c162_13_k0 : ptCtF c162_13 c162_13_e (pkP (c162_13_pts ++ []) [0]) ((hOr (hWpop 7 6) (hWz 52 6)), noM, 1, 4503599627370624, 21) 3000 c162_13_p0 = true := by decide +kernel
set_option maxRecDepth 100000 in
theorem c162_13_v : ValidC PPk c162_13 := ct_ok fpk ⟨(hOr_ok (hWpop_ok 7 6) (hWz_ok 52 6)), noM_ok⟩ (d := 1) (ext := []) (pts := c162_13_pts) (env := c162_13_e) rfl (List.forall_mem_cons.mpr ⟨⟨c163_0_v, Nat.le_of_ble_eq_true rfl⟩, List.forall_mem_cons.mpr ⟨⟨c164_0_v, Nat.le_of_ble_eq_true rfl⟩, fun _ h => (by cases h)⟩⟩) ext_nil (fun q h => (by cases h)) (enF c162_13_k) (List.forall_mem_cons.mpr ⟨⟨_, ptF c162_13_k0⟩, fun _ h => (by cases h)⟩)

noncomputable def c162_14 : Ct := (162, 2, (21, (zt58 []), [((.negSucc 68), [(0, (.ofNat 1)), (1, (.ofNat 1))])], [qvR 0, qvK (.ofNat 1)], zh141, [(2, [1], []), (1, [1], []), (29, [6], [(sL 1), ((.ofNat 7), []), (sL 18), (sL 19), (sL 20)])]),
  [((22, [qtN 21 1 69], [((.ofNat 0), [(0, (.negSucc 0)), (1, (.negSucc 0)), (21, (.ofNat 1))]), ((.negSucc 68), [(0, (.ofNat 1)), (1, (.ofNat 1)), (21, (.negSucc 0))]), ((.negSucc 69), [(0, (.ofNat 1)), (1, (.ofNat 1)), (21, (.negSucc 0))]), ((.negSucc 69), [(0, (.ofNat 1)), (1, (.ofNat 1))]), ((.ofNat 0), [(1, (.negSucc 0)), (21, (.ofNat 1))]), ((.negSucc 0), [(1, (.negSucc 0)), (21, (.ofNat 1))])], [], zh143, [(2, [1], []), (1, [1], []), (29, [6], [(sL 21), ((.ofNat 7), []), (sL 18), ((.ofNat 0), []), ((.ofNat 0), [])])]), 0, 0)])
noncomputable def c162_14_e : List Ct := [c163_0, c164_0]
noncomputable def c162_14_p0 : PE := (0, [0, 1], (24, (zt59 []), [((.negSucc 68), [(0, (.ofNat 1)), (1, (.ofNat 1))]), ((.negSucc 69), [(0, (.ofNat 1)), (1, (.ofNat 1))]), ((.ofNat 0), [(0, (.negSucc 0)), (1, (.negSucc 0)), (21, (.ofNat 1))]), ((.negSucc 68), [(0, (.ofNat 1)), (1, (.ofNat 1)), (21, (.negSucc 0))]), ((.negSucc 69), [(0, (.ofNat 1)), (1, (.ofNat 1)), (21, (.negSucc 0))]), ((.ofNat 0), [(1, (.negSucc 0)), (21, (.ofNat 1))]), ((.negSucc 0), [(1, (.negSucc 0)), (21, (.ofNat 1))])], [qvR 0, qvK (.ofNat 1)], zh143, [(2, [1], []), (1, [1], []), (29, [6], [(sL 21), ((.ofNat 7), []), (sL 18), (sL 22), (sL 23)])]), symsL 21 0, some ((.ofNat 139), [(0, (.negSucc 0)), (1, (.negSucc 0)), (21, (.ofNat 1))]), 0, 0)
noncomputable def c162_14_pts : List PE := [c162_14_p0]
set_option maxRecDepth 100000 in
theorem c162_14_k : enCtF c162_14 c162_14_e (pkP (c162_14_pts ++ []) [0]) (none) ((hOr (hWpop 7 6) (hWz 52 6)), noM, 1, 4503599627370624, 21) 3000 = true := by decide +kernel
set_option maxRecDepth 100000 in
theorem c162_14_k0 : ptCtF c162_14 c162_14_e (pkP (c162_14_pts ++ []) [0]) ((hOr (hWpop 7 6) (hWz 52 6)), noM, 1, 4503599627370624, 21) 3000 c162_14_p0 = true := by decide +kernel
set_option maxRecDepth 100000 in
theorem c162_14_v : ValidC PPk c162_14 := ct_ok fpk ⟨(hOr_ok (hWpop_ok 7 6) (hWz_ok 52 6)), noM_ok⟩ (d := 1) (ext := []) (pts := c162_14_pts) (env := c162_14_e) rfl (List.forall_mem_cons.mpr ⟨⟨c163_0_v, Nat.le_of_ble_eq_true rfl⟩, List.forall_mem_cons.mpr ⟨⟨c164_0_v, Nat.le_of_ble_eq_true rfl⟩, fun _ h => (by cases h)⟩⟩) ext_nil (fun q h => (by cases h)) (enF c162_14_k) (List.forall_mem_cons.mpr ⟨⟨_, ptF c162_14_k0⟩, fun _ h => (by cases h)⟩)

noncomputable def c167_21 : Ct := (167, 1, (23, (zt60 []), [], [qvR 0, qvK (.ofNat 2)], zh144, [(2, [1], []), (1, [1], []), (29, [6], [(sL 1), ((.ofNat 7), []), (sL 20), (sL 21), (sL 22)])]),
  [((23, [], [], [], zh145, [(2, [1], []), (1, [1], []), (29, [6], [((.ofNat 1), [(1, (.ofNat 1))]), ((.ofNat 7), []), (sL 20), (sL 21), ((.ofNat 6), [])])]), 0, 0)])
noncomputable def c167_21_e : List Ct := []
noncomputable def c167_21_pts : List PE := []
set_option maxRecDepth 100000 in
theorem c167_21_k : enCtF c167_21 c167_21_e (pkP (c167_21_pts ++ []) []) (none) (noF, (mWst 9), 0, 512, 23) 3000 = true := by decide +kernel
set_option maxRecDepth 100000 in
theorem c167_21_v : ValidC PPk c167_21 := ct_ok fpk ⟨noF_ok, (mWst_ok 9)⟩ (d := 0) (ext := []) (pts := c167_21_pts) (env := c167_21_e) rfl (fun _ h => (by cases h)) ext_nil (fun q h => (by cases h)) (enF c167_21_k) (fun _ h => (by cases h))

noncomputable def c167_22 : Ct := (167, 1, (23, (zt60 []), [], [qvR 0, qvK (.ofNat 13)], zh144, [(2, [1], []), (1, [1], []), (29, [6], [(sL 1), ((.ofNat 7), []), (sL 20), (sL 21), (sL 22)])]),
  [((23, [], [], [], zh145, [(2, [1], []), (1, [1], []), (29, [6], [((.ofNat 1), [(1, (.ofNat 1))]), ((.ofNat 8), []), ((.ofNat 0), [(20, (.ofNat 2)), (21, (.ofNat 1))]), ((.ofNat 0), []), ((.ofNat 0), [])])]), 0, 0)])
noncomputable def c167_22_e : List Ct := []
noncomputable def c167_22_pts : List PE := []
set_option maxRecDepth 100000 in
theorem c167_22_k : enCtF c167_22 c167_22_e (pkP (c167_22_pts ++ []) []) (none) (noF, (mWst 9), 0, 512, 23) 3000 = true := by decide +kernel
set_option maxRecDepth 100000 in
theorem c167_22_v : ValidC PPk c167_22 := ct_ok fpk ⟨noF_ok, (mWst_ok 9)⟩ (d := 0) (ext := []) (pts := c167_22_pts) (env := c167_22_e) rfl (fun _ h => (by cases h)) ext_nil (fun q h => (by cases h)) (enF c167_22_k) (fun _ h => (by cases h))

noncomputable def c167_23 : Ct := (167, 1, (23, (zt60 []), [], [qvR 0, qvK (.ofNat 3)], zh144, [(2, [1], []), (1, [1], []), (29, [6], [(sL 1), ((.ofNat 7), []), (sL 20), (sL 21), (sL 22)])]),
  [((23, [], [], [], zh145, [(2, [1], []), (1, [1], []), (29, [6], [((.ofNat 1), [(1, (.ofNat 1))]), ((.ofNat 7), []), (sL 20), (sL 21), ((.ofNat 6), [])])]), 0, 0)])
noncomputable def c167_23_e : List Ct := []
noncomputable def c167_23_pts : List PE := []
set_option maxRecDepth 100000 in
theorem c167_23_k : enCtF c167_23 c167_23_e (pkP (c167_23_pts ++ []) []) (none) (noF, (mWst 9), 0, 512, 23) 3000 = true := by decide +kernel
set_option maxRecDepth 100000 in
theorem c167_23_v : ValidC PPk c167_23 := ct_ok fpk ⟨noF_ok, (mWst_ok 9)⟩ (d := 0) (ext := []) (pts := c167_23_pts) (env := c167_23_e) rfl (fun _ h => (by cases h)) ext_nil (fun q h => (by cases h)) (enF c167_23_k) (fun _ h => (by cases h))

noncomputable def c162_15 : Ct := (162, 2, (21, (zt58 []), [((.negSucc 68), [(0, (.ofNat 1)), (1, (.ofNat 1))])], [qvR 0, qvK (.ofNat 6)], zh141, [(2, [1], []), (1, [1], []), (29, [6], [(sL 1), ((.ofNat 7), []), (sL 18), (sL 19), (sL 20)])]),
  [((23, [qtN 21 1 69, qtN 22 0 5], [((.ofNat 0), [(0, (.negSucc 0)), (1, (.negSucc 0)), (21, (.ofNat 1))]), ((.negSucc 68), [(0, (.ofNat 1)), (1, (.ofNat 1)), (21, (.negSucc 0))]), ((.negSucc 69), [(0, (.ofNat 1)), (1, (.ofNat 1)), (21, (.negSucc 0))]), ((.negSucc 69), [(0, (.ofNat 1)), (1, (.ofNat 1))]), ((.ofNat 0), [(1, (.negSucc 0)), (21, (.ofNat 1))]), ((.negSucc 0), [(1, (.negSucc 0)), (21, (.ofNat 1))])], [], zh143, [(2, [1], []), (1, [1], []), (29, [6], [(sL 21), ((.ofNat 7), []), (sL 18), (sL 19), (sL 22)])]), 0, 0)])
noncomputable def c162_15_e : List Ct := [c163_0, c164_0]
noncomputable def c162_15_p0 : PE := (0, [0, 1], (23, (zt61 []), [((.negSucc 68), [(0, (.ofNat 1)), (1, (.ofNat 1))]), ((.negSucc 69), [(0, (.ofNat 1)), (1, (.ofNat 1))]), ((.ofNat 0), [(0, (.negSucc 0)), (1, (.negSucc 0)), (21, (.ofNat 1))]), ((.negSucc 68), [(0, (.ofNat 1)), (1, (.ofNat 1)), (21, (.negSucc 0))]), ((.negSucc 69), [(0, (.ofNat 1)), (1, (.ofNat 1)), (21, (.negSucc 0))]), ((.ofNat 0), [(1, (.negSucc 0)), (21, (.ofNat 1))]), ((.negSucc 0), [(1, (.negSucc 0)), (21, (.ofNat 1))])], [qvR 0, qvK (.ofNat 6)], zh143, [(2, [1], []), (1, [1], []), (29, [6], [(sL 21), ((.ofNat 7), []), (sL 18), (sL 19), (sL 22)])]), symsL 21 0, some ((.ofNat 139), [(0, (.negSucc 0)), (1, (.negSucc 0)), (21, (.ofNat 1))]), 0, 0)
noncomputable def c162_15_pts : List PE := [c162_15_p0]
set_option maxRecDepth 100000 in
theorem c162_15_k : enCtF c162_15 c162_15_e (pkP (c162_15_pts ++ []) [0]) (none) ((hOr (hWpop 7 6) (hWz 52 6)), noM, 1, 4503599627370624, 21) 3000 = true := by decide +kernel
set_option maxRecDepth 100000 in
theorem c162_15_k0 : ptCtF c162_15 c162_15_e (pkP (c162_15_pts ++ []) [0]) ((hOr (hWpop 7 6) (hWz 52 6)), noM, 1, 4503599627370624, 21) 3000 c162_15_p0 = true := by decide +kernel
set_option maxRecDepth 100000 in
theorem c162_15_v : ValidC PPk c162_15 := ct_ok fpk ⟨(hOr_ok (hWpop_ok 7 6) (hWz_ok 52 6)), noM_ok⟩ (d := 1) (ext := []) (pts := c162_15_pts) (env := c162_15_e) rfl (List.forall_mem_cons.mpr ⟨⟨c163_0_v, Nat.le_of_ble_eq_true rfl⟩, List.forall_mem_cons.mpr ⟨⟨c164_0_v, Nat.le_of_ble_eq_true rfl⟩, fun _ h => (by cases h)⟩⟩) ext_nil (fun q h => (by cases h)) (enF c162_15_k) (List.forall_mem_cons.mpr ⟨⟨_, ptF c162_15_k0⟩, fun _ h => (by cases h)⟩)

noncomputable def c162_16 : Ct := (162, 2, (21, (zt58 []), [((.negSucc 68), [(0, (.ofNat 1)), (1, (.ofNat 1))])], [qvR 0, qvK (.ofNat 1)], zh141, [(2, [1], []), (1, [1], []), (29, [6], [(sL 1), ((.ofNat 8), []), (sL 18), (sL 19), (sL 20)])]),
  [((22, [qtN 21 1 69], [((.ofNat 0), [(0, (.negSucc 0)), (1, (.negSucc 0)), (21, (.ofNat 1))]), ((.negSucc 68), [(0, (.ofNat 1)), (1, (.ofNat 1)), (21, (.negSucc 0))]), ((.negSucc 69), [(0, (.ofNat 1)), (1, (.ofNat 1)), (21, (.negSucc 0))]), ((.negSucc 69), [(0, (.ofNat 1)), (1, (.ofNat 1))]), ((.ofNat 0), [(1, (.negSucc 0)), (21, (.ofNat 1))]), ((.negSucc 0), [(1, (.negSucc 0)), (21, (.ofNat 1))])], [], zh143, [(2, [1], []), (1, [1], []), (29, [6], [(sL 21), ((.ofNat 8), []), (sL 18), ((.ofNat 0), []), ((.ofNat 0), [])])]), 0, 0)])
noncomputable def c162_16_e : List Ct := [c163_0, c164_0]
noncomputable def c162_16_p0 : PE := (0, [0, 1], (24, (zt59 []), [((.negSucc 68), [(0, (.ofNat 1)), (1, (.ofNat 1))]), ((.negSucc 69), [(0, (.ofNat 1)), (1, (.ofNat 1))]), ((.ofNat 0), [(0, (.negSucc 0)), (1, (.negSucc 0)), (21, (.ofNat 1))]), ((.negSucc 68), [(0, (.ofNat 1)), (1, (.ofNat 1)), (21, (.negSucc 0))]), ((.negSucc 69), [(0, (.ofNat 1)), (1, (.ofNat 1)), (21, (.negSucc 0))]), ((.ofNat 0), [(1, (.negSucc 0)), (21, (.ofNat 1))]), ((.negSucc 0), [(1, (.negSucc 0)), (21, (.ofNat 1))])], [qvR 0, qvK (.ofNat 1)], zh143, [(2, [1], []), (1, [1], []), (29, [6], [(sL 21), ((.ofNat 8), []), (sL 18), (sL 22), (sL 23)])]), symsL 21 0, some ((.ofNat 139), [(0, (.negSucc 0)), (1, (.negSucc 0)), (21, (.ofNat 1))]), 0, 0)
noncomputable def c162_16_pts : List PE := [c162_16_p0]
set_option maxRecDepth 100000 in
theorem c162_16_k : enCtF c162_16 c162_16_e (pkP (c162_16_pts ++ []) [0]) (none) ((hOr (hWpop 7 6) (hWz 52 6)), noM, 1, 4503599627370624, 21) 3000 = true := by decide +kernel
set_option maxRecDepth 100000 in
theorem c162_16_k0 : ptCtF c162_16 c162_16_e (pkP (c162_16_pts ++ []) [0]) ((hOr (hWpop 7 6) (hWz 52 6)), noM, 1, 4503599627370624, 21) 3000 c162_16_p0 = true := by decide +kernel
set_option maxRecDepth 100000 in
theorem c162_16_v : ValidC PPk c162_16 := ct_ok fpk ⟨(hOr_ok (hWpop_ok 7 6) (hWz_ok 52 6)), noM_ok⟩ (d := 1) (ext := []) (pts := c162_16_pts) (env := c162_16_e) rfl (List.forall_mem_cons.mpr ⟨⟨c163_0_v, Nat.le_of_ble_eq_true rfl⟩, List.forall_mem_cons.mpr ⟨⟨c164_0_v, Nat.le_of_ble_eq_true rfl⟩, fun _ h => (by cases h)⟩⟩) ext_nil (fun q h => (by cases h)) (enF c162_16_k) (List.forall_mem_cons.mpr ⟨⟨_, ptF c162_16_k0⟩, fun _ h => (by cases h)⟩)

noncomputable def c167_24 : Ct := (167, 1, (23, (zt60 []), [], [qvR 0, qvK (.ofNat 2)], zh144, [(2, [1], []), (1, [1], []), (29, [6], [(sL 1), ((.ofNat 8), []), (sL 20), (sL 21), (sL 22)])]),
  [((23, [], [], [], zh145, [(2, [1], []), (1, [1], []), (29, [6], [((.ofNat 1), [(1, (.ofNat 1))]), ((.ofNat 8), []), (sL 20), (sL 21), ((.ofNat 6), [])])]), 0, 0)])
noncomputable def c167_24_e : List Ct := []
noncomputable def c167_24_pts : List PE := []
set_option maxRecDepth 100000 in
theorem c167_24_k : enCtF c167_24 c167_24_e (pkP (c167_24_pts ++ []) []) (none) (noF, (mWst 9), 0, 512, 23) 3000 = true := by decide +kernel
set_option maxRecDepth 100000 in
theorem c167_24_v : ValidC PPk c167_24 := ct_ok fpk ⟨noF_ok, (mWst_ok 9)⟩ (d := 0) (ext := []) (pts := c167_24_pts) (env := c167_24_e) rfl (fun _ h => (by cases h)) ext_nil (fun q h => (by cases h)) (enF c167_24_k) (fun _ h => (by cases h))

noncomputable def c167_25 : Ct := (167, 1, (23, (zt60 []), [], [qvR 0, qvK (.ofNat 3)], zh144, [(2, [1], []), (1, [1], []), (29, [6], [(sL 1), ((.ofNat 8), []), (sL 20), (sL 21), (sL 22)])]),
  [((23, [], [], [], zh145, [(2, [1], []), (1, [1], []), (29, [6], [((.ofNat 1), [(1, (.ofNat 1))]), ((.ofNat 8), []), (sL 20), (sL 21), ((.ofNat 6), [])])]), 0, 0)])
noncomputable def c167_25_e : List Ct := []
noncomputable def c167_25_pts : List PE := []
set_option maxRecDepth 100000 in
theorem c167_25_k : enCtF c167_25 c167_25_e (pkP (c167_25_pts ++ []) []) (none) (noF, (mWst 9), 0, 512, 23) 3000 = true := by decide +kernel
set_option maxRecDepth 100000 in
theorem c167_25_v : ValidC PPk c167_25 := ct_ok fpk ⟨noF_ok, (mWst_ok 9)⟩ (d := 0) (ext := []) (pts := c167_25_pts) (env := c167_25_e) rfl (fun _ h => (by cases h)) ext_nil (fun q h => (by cases h)) (enF c167_25_k) (fun _ h => (by cases h))

noncomputable def c162_17 : Ct := (162, 2, (21, (zt58 []), [((.negSucc 68), [(0, (.ofNat 1)), (1, (.ofNat 1))])], [qvR 0, qvK (.ofNat 6)], zh141, [(2, [1], []), (1, [1], []), (29, [6], [(sL 1), ((.ofNat 8), []), (sL 18), (sL 19), (sL 20)])]),
  [((23, [qtN 21 1 69, qtN 22 0 5], [((.ofNat 0), [(0, (.negSucc 0)), (1, (.negSucc 0)), (21, (.ofNat 1))]), ((.negSucc 68), [(0, (.ofNat 1)), (1, (.ofNat 1)), (21, (.negSucc 0))]), ((.negSucc 69), [(0, (.ofNat 1)), (1, (.ofNat 1)), (21, (.negSucc 0))]), ((.negSucc 69), [(0, (.ofNat 1)), (1, (.ofNat 1))]), ((.ofNat 0), [(1, (.negSucc 0)), (21, (.ofNat 1))]), ((.negSucc 0), [(1, (.negSucc 0)), (21, (.ofNat 1))])], [], zh143, [(2, [1], []), (1, [1], []), (29, [6], [(sL 21), ((.ofNat 8), []), (sL 18), (sL 19), (sL 22)])]), 0, 0)])
noncomputable def c162_17_e : List Ct := [c163_0, c164_0]
noncomputable def c162_17_p0 : PE := (0, [0, 1], (23, (zt61 []), [((.negSucc 68), [(0, (.ofNat 1)), (1, (.ofNat 1))]), ((.negSucc 69), [(0, (.ofNat 1)), (1, (.ofNat 1))]), ((.ofNat 0), [(0, (.negSucc 0)), (1, (.negSucc 0)), (21, (.ofNat 1))]), ((.negSucc 68), [(0, (.ofNat 1)), (1, (.ofNat 1)), (21, (.negSucc 0))]), ((.negSucc 69), [(0, (.ofNat 1)), (1, (.ofNat 1)), (21, (.negSucc 0))]), ((.ofNat 0), [(1, (.negSucc 0)), (21, (.ofNat 1))]), ((.negSucc 0), [(1, (.negSucc 0)), (21, (.ofNat 1))])], [qvR 0, qvK (.ofNat 6)], zh143, [(2, [1], []), (1, [1], []), (29, [6], [(sL 21), ((.ofNat 8), []), (sL 18), (sL 19), (sL 22)])]), symsL 21 0, some ((.ofNat 139), [(0, (.negSucc 0)), (1, (.negSucc 0)), (21, (.ofNat 1))]), 0, 0)
noncomputable def c162_17_pts : List PE := [c162_17_p0]
set_option maxRecDepth 100000 in
theorem c162_17_k : enCtF c162_17 c162_17_e (pkP (c162_17_pts ++ []) [0]) (none) ((hOr (hWpop 7 6) (hWz 52 6)), noM, 1, 4503599627370624, 21) 3000 = true := by decide +kernel
set_option maxRecDepth 100000 in
theorem c162_17_k0 : ptCtF c162_17 c162_17_e (pkP (c162_17_pts ++ []) [0]) ((hOr (hWpop 7 6) (hWz 52 6)), noM, 1, 4503599627370624, 21) 3000 c162_17_p0 = true := by decide +kernel
set_option maxRecDepth 100000 in
theorem c162_17_v : ValidC PPk c162_17 := ct_ok fpk ⟨(hOr_ok (hWpop_ok 7 6) (hWz_ok 52 6)), noM_ok⟩ (d := 1) (ext := []) (pts := c162_17_pts) (env := c162_17_e) rfl (List.forall_mem_cons.mpr ⟨⟨c163_0_v, Nat.le_of_ble_eq_true rfl⟩, List.forall_mem_cons.mpr ⟨⟨c164_0_v, Nat.le_of_ble_eq_true rfl⟩, fun _ h => (by cases h)⟩⟩) ext_nil (fun q h => (by cases h)) (enF c162_17_k) (List.forall_mem_cons.mpr ⟨⟨_, ptF c162_17_k0⟩, fun _ h => (by cases h)⟩)

noncomputable def c165_0 : Ct := (165, 1, (1, [qtN 0 0 127], [], [qvS 0], [], []),
  [((1, [qtN 0 0 37], [], [qvK (.negSucc 0)], [], []), 0, 0),
   ((1, [qtN 0 38 38], [], [qvK (.ofNat 11)], [], []), 0, 0),
   ((1, [qtN 0 39 41], [], [qvK (.negSucc 0)], [], []), 0, 0),
   ((1, [qtN 0 42 42], [], [qvK (.ofNat 4)], [], []), 0, 0),
   ((1, [qtN 0 43 43], [], [qvK (.ofNat 6)], [], []), 0, 0),
   ((1, [qtN 0 44 44], [], [qvK (.negSucc 0)], [], []), 0, 0),
   ((1, [qtN 0 45 45], [], [qvK (.ofNat 7)], [], []), 0, 0),
   ((1, [qtN 0 46 46], [], [qvK (.negSucc 0)], [], []), 0, 0),
   ((1, [qtN 0 47 47], [], [qvK (.ofNat 5)], [], []), 0, 0),
   ((1, [qtN 0 48 59], [], [qvK (.negSucc 0)], [], []), 0, 0),
   ((1, [qtN 0 60 60], [], [qvK (.ofNat 8)], [], []), 0, 0),
   ((1, [qtN 0 61 61], [], [qvK (.ofNat 10)], [], []), 0, 0),
   ((1, [qtN 0 62 62], [], [qvK (.ofNat 9)], [], []), 0, 0),
   ((1, [qtN 0 63 123], [], [qvK (.negSucc 0)], [], []), 0, 0),
   ((1, [qtN 0 124 124], [], [qvK (.ofNat 12)], [], []), 0, 0),
   ((1, [qtN 0 125 127], [], [qvK (.negSucc 0)], [], []), 0, 0)])
noncomputable def c165_0_e : List Ct := []
noncomputable def c165_0_pts : List PE := []
set_option maxRecDepth 100000 in
theorem c165_0_k : enCtF c165_0 c165_0_e (pkP (c165_0_pts ++ []) []) (some (0, 0, 128)) noH 3000 = true := by decide +kernel
set_option maxRecDepth 100000 in
theorem c165_0_v : ValidC PPk c165_0 := ct_ok fpk noH_ok (d := 0) (ext := []) (pts := c165_0_pts) (env := c165_0_e) rfl (fun _ h => (by cases h)) ext_nil (fun q h => (by cases h; exact Nat.le_of_ble_eq_true rfl)) (enF c165_0_k) (fun _ h => (by cases h))

noncomputable def c162_18 : Ct := (162, 2, (21, (zt58 []), [((.negSucc 68), [(0, (.ofNat 1)), (1, (.ofNat 1))])], [qvR 0, qvK (.ofNat 2)], zh141, [(2, [1], []), (1, [1], []), (29, [6], [(sL 1), ((.ofNat 0), []), (sL 18), (sL 19), (sL 20)])]),
  [((23, [qtN 21 0 69, qtN 22 0 1], [((.ofNat 0), [(0, (.negSucc 0)), (1, (.negSucc 0)), (21, (.ofNat 1))]), ((.negSucc 68), [(0, (.ofNat 1)), (1, (.ofNat 1)), (21, (.negSucc 0))]), ((.negSucc 69), [(0, (.ofNat 1)), (1, (.ofNat 1)), (21, (.negSucc 0))]), ((.negSucc 69), [(0, (.ofNat 1)), (1, (.ofNat 1))]), ((.ofNat 0), [(1, (.negSucc 0)), (21, (.ofNat 1))]), ((.negSucc 0), [(1, (.negSucc 0)), (21, (.ofNat 1))])], [], zh143, [(2, [1], []), (1, [1], []), (29, [6], [(sL 21), ((.ofNat 0), []), (sL 18), ((.ofNat 0), []), (sL 22)])]), 0, 0)])
noncomputable def c162_18_e : List Ct := [c163_0, c164_0]
noncomputable def c162_18_p0 : PE := (0, [0, 1], (24, (zt59 []), [((.negSucc 68), [(0, (.ofNat 1)), (1, (.ofNat 1))]), ((.negSucc 69), [(0, (.ofNat 1)), (1, (.ofNat 1))]), ((.ofNat 0), [(0, (.negSucc 0)), (1, (.negSucc 0)), (21, (.ofNat 1))]), ((.negSucc 68), [(0, (.ofNat 1)), (1, (.ofNat 1)), (21, (.negSucc 0))]), ((.negSucc 69), [(0, (.ofNat 1)), (1, (.ofNat 1)), (21, (.negSucc 0))]), ((.ofNat 0), [(1, (.negSucc 0)), (21, (.ofNat 1))]), ((.negSucc 0), [(1, (.negSucc 0)), (21, (.ofNat 1))])], [qvR 0, qvK (.ofNat 2)], zh143, [(2, [1], []), (1, [1], []), (29, [6], [(sL 21), ((.ofNat 0), []), (sL 18), (sL 22), (sL 23)])]), symsL 21 0, some ((.ofNat 139), [(0, (.negSucc 0)), (1, (.negSucc 0)), (21, (.ofNat 1))]), 0, 0)
noncomputable def c162_18_pts : List PE := [c162_18_p0]
set_option maxRecDepth 100000 in
theorem c162_18_k : enCtF c162_18 c162_18_e (pkP (c162_18_pts ++ []) [0]) (none) ((hOr (hWpop 7 6) (hWz 52 6)), noM, 1, 4503599627370624, 21) 3000 = true := by decide +kernel
set_option maxRecDepth 100000 in
theorem c162_18_k0 : ptCtF c162_18 c162_18_e (pkP (c162_18_pts ++ []) [0]) ((hOr (hWpop 7 6) (hWz 52 6)), noM, 1, 4503599627370624, 21) 3000 c162_18_p0 = true := by decide +kernel
set_option maxRecDepth 100000 in
theorem c162_18_v : ValidC PPk c162_18 := ct_ok fpk ⟨(hOr_ok (hWpop_ok 7 6) (hWz_ok 52 6)), noM_ok⟩ (d := 1) (ext := []) (pts := c162_18_pts) (env := c162_18_e) rfl (List.forall_mem_cons.mpr ⟨⟨c163_0_v, Nat.le_of_ble_eq_true rfl⟩, List.forall_mem_cons.mpr ⟨⟨c164_0_v, Nat.le_of_ble_eq_true rfl⟩, fun _ h => (by cases h)⟩⟩) ext_nil (fun q h => (by cases h)) (enF c162_18_k) (List.forall_mem_cons.mpr ⟨⟨_, ptF c162_18_k0⟩, fun _ h => (by cases h)⟩)

noncomputable def zt62 (r : TbL) : TbL := qtN 0 0 69 :: qtN 1 0 69 :: qtN 2 0 8 :: qtA 3 :: qtA 4 :: qtA 5 :: qtA 6 :: qtA 7 :: qtA 8 :: qtA 9 :: qtN 21 0 1 :: qtN 22 0 1 :: r
noncomputable def c167_26 : Ct := (167, 1, (23, (zt62 []), [], [qvR 0, qvK (.ofNat 11)], zh144, [(2, [1], []), (1, [1], []), (29, [6], [(sL 1), ((.ofNat 0), []), (sL 20), (sL 21), (sL 22)])]),
  [((23, [], [], [], zh145, [(2, [1], []), (1, [1], []), (29, [6], [((.ofNat 1), [(1, (.ofNat 1))]), ((.ofNat 0), []), (sL 20), (sL 21), ((.ofNat 2), [])])]), 0, 0)])
noncomputable def c167_26_e : List Ct := []
noncomputable def c167_26_pts : List PE := []
set_option maxRecDepth 100000 in
theorem c167_26_k : enCtF c167_26 c167_26_e (pkP (c167_26_pts ++ []) []) (none) (noF, (mWst 9), 0, 512, 23) 3000 = true := by decide +kernel
set_option maxRecDepth 100000 in
theorem c167_26_v : ValidC PPk c167_26 := ct_ok fpk ⟨noF_ok, (mWst_ok 9)⟩ (d := 0) (ext := []) (pts := c167_26_pts) (env := c167_26_e) rfl (fun _ h => (by cases h)) ext_nil (fun q h => (by cases h)) (enF c167_26_k) (fun _ h => (by cases h))

noncomputable def zh146 : AH := [qoC 12 [qvR 1, qvR 2, qvR 3, .inl (false, ((.ofNat 1), [(0, (.ofNat 1)), (1, (.ofNat 1)), (21, (.negSucc 0))])), qvR 4, qvR 5, qvS 21, qvR 6, qvR 7, qvS 2, qvR 8, qvS 3, qvR 9, qvR 10, qvR 11, qvR 12, qvS 4, qvS 5, qvS 6, qvR 13, qvS 7, qvS 8, qvS 9, qvR 14], qkC 100 10, qkC 100 11, qkC 103 12, qiC 0 [qgA 70], qiC 0 [qgA 70], qiC 0 [qgA 70], qjC 1 70, qjC 1 8, qkC 100 13, qkC 100 14, qkC 100 15, qkC 100 16, qkC 100 17, qjC 1 4]
noncomputable def c166_0 : Ct := (166, 3, (21, (zt58 []), [((.negSucc 68), [(0, (.ofNat 1)), (1, (.ofNat 1))])], [qvR 0, qvK (.ofNat 11)], zh141, [(2, [1], []), (1, [1], []), (29, [6], [(sL 1), ((.ofNat 0), []), (sL 18), (sL 19), (sL 20)])]),
  [((22, [qtN 21 1 70], [((.negSucc 69), [(0, (.ofNat 1)), (1, (.ofNat 1))]), ((.negSucc 1), [(1, (.negSucc 0)), (21, (.ofNat 1))]), ((.negSucc 0), [(1, (.negSucc 0)), (21, (.ofNat 1))]), ((.negSucc 68), [(0, (.ofNat 1)), (1, (.ofNat 1)), (21, (.negSucc 0))]), ((.negSucc 67), [(0, (.ofNat 1)), (1, (.ofNat 1)), (21, (.negSucc 0))]), ((.negSucc 0), [(0, (.negSucc 0)), (1, (.negSucc 0)), (21, (.ofNat 1))])], [qvK (.ofNat 1)], zh146, [(2, [1], []), (1, [1], []), (29, [6], [(sL 21), ((.ofNat 0), []), (sL 18), ((.ofNat 0), []), ((.ofNat 2), [])])]), 0, 0)])
noncomputable def c166_0_e : List Ct := [c162_18, c163_0, c167_26]
noncomputable def c166_0_pts : List PE := []
set_option maxRecDepth 100000 in
theorem c166_0_k : enCtF c166_0 c166_0_e (pkP (c166_0_pts ++ []) []) (none) ((hOr (hWpop 22 6) (hWz 42 6)), noM, 0, 4398050705408, 21) 3000 = true := by decide +kernel
set_option maxRecDepth 100000 in
theorem c166_0_v : ValidC PPk c166_0 := ct_ok fpk ⟨(hOr_ok (hWpop_ok 22 6) (hWz_ok 42 6)), noM_ok⟩ (d := 2) (ext := []) (pts := c166_0_pts) (env := c166_0_e) rfl (List.forall_mem_cons.mpr ⟨⟨c162_18_v, Nat.le_of_ble_eq_true rfl⟩, List.forall_mem_cons.mpr ⟨⟨c163_0_v, Nat.le_of_ble_eq_true rfl⟩, List.forall_mem_cons.mpr ⟨⟨c167_26_v, Nat.le_of_ble_eq_true rfl⟩, fun _ h => (by cases h)⟩⟩⟩) ext_nil (fun q h => (by cases h)) (enF c166_0_k) (fun _ h => (by cases h))

noncomputable def c162_19 : Ct := (162, 2, (21, (zt58 []), [((.negSucc 68), [(0, (.ofNat 1)), (1, (.ofNat 1))])], [qvR 0, qvK (.ofNat 5)], zh141, [(2, [1], []), (1, [1], []), (29, [6], [(sL 1), ((.ofNat 0), []), (sL 18), (sL 19), (sL 20)])]),
  [((23, [qtN 21 0 69, qtN 22 0 4], [((.ofNat 0), [(0, (.negSucc 0)), (1, (.negSucc 0)), (21, (.ofNat 1))]), ((.negSucc 68), [(0, (.ofNat 1)), (1, (.ofNat 1)), (21, (.negSucc 0))]), ((.negSucc 69), [(0, (.ofNat 1)), (1, (.ofNat 1)), (21, (.negSucc 0))]), ((.negSucc 69), [(0, (.ofNat 1)), (1, (.ofNat 1))]), ((.ofNat 0), [(1, (.negSucc 0)), (21, (.ofNat 1))]), ((.negSucc 0), [(1, (.negSucc 0)), (21, (.ofNat 1))])], [], zh143, [(2, [1], []), (1, [1], []), (29, [6], [(sL 21), ((.ofNat 0), []), (sL 18), (sL 19), (sL 22)])]), 0, 0)])
noncomputable def c162_19_e : List Ct := [c163_0, c164_0]
noncomputable def c162_19_p0 : PE := (0, [0, 1], (23, (zt61 []), [((.negSucc 68), [(0, (.ofNat 1)), (1, (.ofNat 1))]), ((.negSucc 69), [(0, (.ofNat 1)), (1, (.ofNat 1))]), ((.ofNat 0), [(0, (.negSucc 0)), (1, (.negSucc 0)), (21, (.ofNat 1))]), ((.negSucc 68), [(0, (.ofNat 1)), (1, (.ofNat 1)), (21, (.negSucc 0))]), ((.negSucc 69), [(0, (.ofNat 1)), (1, (.ofNat 1)), (21, (.negSucc 0))]), ((.ofNat 0), [(1, (.negSucc 0)), (21, (.ofNat 1))]), ((.negSucc 0), [(1, (.negSucc 0)), (21, (.ofNat 1))])], [qvR 0, qvK (.ofNat 5)], zh143, [(2, [1], []), (1, [1], []), (29, [6], [(sL 21), ((.ofNat 0), []), (sL 18), (sL 19), (sL 22)])]), symsL 21 0, some ((.ofNat 139), [(0, (.negSucc 0)), (1, (.negSucc 0)), (21, (.ofNat 1))]), 0, 0)
noncomputable def c162_19_pts : List PE := [c162_19_p0]
set_option maxRecDepth 100000 in
theorem c162_19_k : enCtF c162_19 c162_19_e (pkP (c162_19_pts ++ []) [0]) (none) ((hOr (hWpop 7 6) (hWz 52 6)), noM, 1, 4503599627370624, 21) 3000 = true := by decide +kernel
set_option maxRecDepth 100000 in
theorem c162_19_k0 : ptCtF c162_19 c162_19_e (pkP (c162_19_pts ++ []) [0]) ((hOr (hWpop 7 6) (hWz 52 6)), noM, 1, 4503599627370624, 21) 3000 c162_19_p0 = true := by decide +kernel
set_option maxRecDepth 100000 in
theorem c162_19_v : ValidC PPk c162_19 := ct_ok fpk ⟨(hOr_ok (hWpop_ok 7 6) (hWz_ok 52 6)), noM_ok⟩ (d := 1) (ext := []) (pts := c162_19_pts) (env := c162_19_e) rfl (List.forall_mem_cons.mpr ⟨⟨c163_0_v, Nat.le_of_ble_eq_true rfl⟩, List.forall_mem_cons.mpr ⟨⟨c164_0_v, Nat.le_of_ble_eq_true rfl⟩, fun _ h => (by cases h)⟩⟩) ext_nil (fun q h => (by cases h)) (enF c162_19_k) (List.forall_mem_cons.mpr ⟨⟨_, ptF c162_19_k0⟩, fun _ h => (by cases h)⟩)

noncomputable def zt63 (r : TbL) : TbL := qtN 0 0 69 :: qtN 1 0 69 :: qtN 2 0 8 :: qtA 3 :: qtA 4 :: qtA 5 :: qtA 6 :: qtA 7 :: qtA 8 :: qtA 9 :: qtN 21 0 1 :: qtN 22 0 4 :: r
noncomputable def c167_27 : Ct := (167, 1, (23, (zt63 []), [], [qvR 0, qvK (.ofNat 4)], zh144, [(2, [1], []), (1, [1], []), (29, [6], [(sL 1), ((.ofNat 0), []), (sL 20), (sL 21), (sL 22)])]),
  [((23, [], [], [], zh145, [(2, [1], []), (1, [1], []), (29, [6], [((.ofNat 1), [(1, (.ofNat 1))]), ((.ofNat 0), []), (sL 20), (sL 21), ((.ofNat 5), [])])]), 0, 0)])
noncomputable def c167_27_e : List Ct := []
noncomputable def c167_27_pts : List PE := []
set_option maxRecDepth 100000 in
theorem c167_27_k : enCtF c167_27 c167_27_e (pkP (c167_27_pts ++ []) []) (none) (noF, (mWst 9), 0, 512, 23) 3000 = true := by decide +kernel
set_option maxRecDepth 100000 in
theorem c167_27_v : ValidC PPk c167_27 := ct_ok fpk ⟨noF_ok, (mWst_ok 9)⟩ (d := 0) (ext := []) (pts := c167_27_pts) (env := c167_27_e) rfl (fun _ h => (by cases h)) ext_nil (fun q h => (by cases h)) (enF c167_27_k) (fun _ h => (by cases h))

noncomputable def c166_1 : Ct := (166, 3, (21, (zt58 []), [((.negSucc 68), [(0, (.ofNat 1)), (1, (.ofNat 1))])], [qvR 0, qvK (.ofNat 4)], zh141, [(2, [1], []), (1, [1], []), (29, [6], [(sL 1), ((.ofNat 0), []), (sL 18), (sL 19), (sL 20)])]),
  [((22, [qtN 21 1 70], [((.negSucc 69), [(0, (.ofNat 1)), (1, (.ofNat 1))]), ((.negSucc 1), [(1, (.negSucc 0)), (21, (.ofNat 1))]), ((.negSucc 0), [(1, (.negSucc 0)), (21, (.ofNat 1))]), ((.negSucc 68), [(0, (.ofNat 1)), (1, (.ofNat 1)), (21, (.negSucc 0))]), ((.negSucc 67), [(0, (.ofNat 1)), (1, (.ofNat 1)), (21, (.negSucc 0))]), ((.negSucc 0), [(0, (.negSucc 0)), (1, (.negSucc 0)), (21, (.ofNat 1))])], [qvK (.ofNat 1)], zh146, [(2, [1], []), (1, [1], []), (29, [6], [(sL 21), ((.ofNat 0), []), (sL 18), (sL 19), ((.ofNat 5), [])])]), 0, 0)])
noncomputable def c166_1_e : List Ct := [c162_19, c163_0, c167_27]
noncomputable def c166_1_pts : List PE := []
set_option maxRecDepth 100000 in
theorem c166_1_k : enCtF c166_1 c166_1_e (pkP (c166_1_pts ++ []) []) (none) ((hOr (hWpop 22 6) (hWz 42 6)), noM, 0, 4398050705408, 21) 3000 = true := by decide +kernel
set_option maxRecDepth 100000 in
theorem c166_1_v : ValidC PPk c166_1 := ct_ok fpk ⟨(hOr_ok (hWpop_ok 22 6) (hWz_ok 42 6)), noM_ok⟩ (d := 2) (ext := []) (pts := c166_1_pts) (env := c166_1_e) rfl (List.forall_mem_cons.mpr ⟨⟨c162_19_v, Nat.le_of_ble_eq_true rfl⟩, List.forall_mem_cons.mpr ⟨⟨c163_0_v, Nat.le_of_ble_eq_true rfl⟩, List.forall_mem_cons.mpr ⟨⟨c167_27_v, Nat.le_of_ble_eq_true rfl⟩, fun _ h => (by cases h)⟩⟩⟩) ext_nil (fun q h => (by cases h)) (enF c166_1_k) (fun _ h => (by cases h))

noncomputable def c162_20 : Ct := (162, 2, (21, (zt58 []), [((.negSucc 68), [(0, (.ofNat 1)), (1, (.ofNat 1))])], [qvR 0, qvK (.ofNat 4)], zh141, [(2, [1], []), (1, [1], []), (29, [6], [(sL 1), ((.ofNat 0), []), (sL 18), (sL 19), (sL 20)])]),
  [((23, [qtN 21 0 69, qtN 22 0 3], [((.ofNat 0), [(0, (.negSucc 0)), (1, (.negSucc 0)), (21, (.ofNat 1))]), ((.negSucc 68), [(0, (.ofNat 1)), (1, (.ofNat 1)), (21, (.negSucc 0))]), ((.negSucc 69), [(0, (.ofNat 1)), (1, (.ofNat 1)), (21, (.negSucc 0))]), ((.negSucc 69), [(0, (.ofNat 1)), (1, (.ofNat 1))]), ((.ofNat 0), [(1, (.negSucc 0)), (21, (.ofNat 1))]), ((.negSucc 0), [(1, (.negSucc 0)), (21, (.ofNat 1))])], [], zh143, [(2, [1], []), (1, [1], []), (29, [6], [(sL 21), ((.ofNat 0), []), (sL 18), (sL 19), (sL 22)])]), 0, 0)])
noncomputable def c162_20_e : List Ct := [c163_0, c164_0]
noncomputable def c162_20_p0 : PE := (0, [0, 1], (23, (zt61 []), [((.negSucc 68), [(0, (.ofNat 1)), (1, (.ofNat 1))]), ((.negSucc 69), [(0, (.ofNat 1)), (1, (.ofNat 1))]), ((.ofNat 0), [(0, (.negSucc 0)), (1, (.negSucc 0)), (21, (.ofNat 1))]), ((.negSucc 68), [(0, (.ofNat 1)), (1, (.ofNat 1)), (21, (.negSucc 0))]), ((.negSucc 69), [(0, (.ofNat 1)), (1, (.ofNat 1)), (21, (.negSucc 0))]), ((.ofNat 0), [(1, (.negSucc 0)), (21, (.ofNat 1))]), ((.negSucc 0), [(1, (.negSucc 0)), (21, (.ofNat 1))])], [qvR 0, qvK (.ofNat 4)], zh143, [(2, [1], []), (1, [1], []), (29, [6], [(sL 21), ((.ofNat 0), []), (sL 18), (sL 19), (sL 22)])]), symsL 21 0, some ((.ofNat 139), [(0, (.negSucc 0)), (1, (.negSucc 0)), (21, (.ofNat 1))]), 0, 0)
noncomputable def c162_20_pts : List PE := [c162_20_p0]
set_option maxRecDepth 100000 in
theorem c162_20_k : enCtF c162_20 c162_20_e (pkP (c162_20_pts ++ []) [0]) (none) ((hOr (hWpop 7 6) (hWz 52 6)), noM, 1, 4503599627370624, 21) 3000 = true := by decide +kernel
set_option maxRecDepth 100000 in
theorem c162_20_k0 : ptCtF c162_20 c162_20_e (pkP (c162_20_pts ++ []) [0]) ((hOr (hWpop 7 6) (hWz 52 6)), noM, 1, 4503599627370624, 21) 3000 c162_20_p0 = true := by decide +kernel
set_option maxRecDepth 100000 in
theorem c162_20_v : ValidC PPk c162_20 := ct_ok fpk ⟨(hOr_ok (hWpop_ok 7 6) (hWz_ok 52 6)), noM_ok⟩ (d := 1) (ext := []) (pts := c162_20_pts) (env := c162_20_e) rfl (List.forall_mem_cons.mpr ⟨⟨c163_0_v, Nat.le_of_ble_eq_true rfl⟩, List.forall_mem_cons.mpr ⟨⟨c164_0_v, Nat.le_of_ble_eq_true rfl⟩, fun _ h => (by cases h)⟩⟩) ext_nil (fun q h => (by cases h)) (enF c162_20_k) (List.forall_mem_cons.mpr ⟨⟨_, ptF c162_20_k0⟩, fun _ h => (by cases h)⟩)

noncomputable def zt64 (r : TbL) : TbL := qtN 0 0 69 :: qtN 1 0 69 :: qtN 2 0 8 :: qtA 3 :: qtA 4 :: qtA 5 :: qtA 6 :: qtA 7 :: qtA 8 :: qtA 9 :: qtN 21 0 1 :: qtN 22 0 3 :: r
noncomputable def c167_28 : Ct := (167, 1, (23, (zt64 []), [], [qvR 0, qvK (.ofNat 6)], zh144, [(2, [1], []), (1, [1], []), (29, [6], [(sL 1), ((.ofNat 0), []), (sL 20), (sL 21), (sL 22)])]),
  [((23, [], [], [], zh145, [(2, [1], []), (1, [1], []), (29, [6], [((.ofNat 1), [(1, (.ofNat 1))]), ((.ofNat 0), []), (sL 20), (sL 21), ((.ofNat 4), [])])]), 0, 0)])
noncomputable def c167_28_e : List Ct := []
noncomputable def c167_28_pts : List PE := []
set_option maxRecDepth 100000 in
theorem c167_28_k : enCtF c167_28 c167_28_e (pkP (c167_28_pts ++ []) []) (none) (noF, (mWst 9), 0, 512, 23) 3000 = true := by decide +kernel
set_option maxRecDepth 100000 in
theorem c167_28_v : ValidC PPk c167_28 := ct_ok fpk ⟨noF_ok, (mWst_ok 9)⟩ (d := 0) (ext := []) (pts := c167_28_pts) (env := c167_28_e) rfl (fun _ h => (by cases h)) ext_nil (fun q h => (by cases h)) (enF c167_28_k) (fun _ h => (by cases h))

noncomputable def c166_2 : Ct := (166, 3, (21, (zt58 []), [((.negSucc 68), [(0, (.ofNat 1)), (1, (.ofNat 1))])], [qvR 0, qvK (.ofNat 6)], zh141, [(2, [1], []), (1, [1], []), (29, [6], [(sL 1), ((.ofNat 0), []), (sL 18), (sL 19), (sL 20)])]),
  [((22, [qtN 21 1 70], [((.negSucc 69), [(0, (.ofNat 1)), (1, (.ofNat 1))]), ((.negSucc 1), [(1, (.negSucc 0)), (21, (.ofNat 1))]), ((.negSucc 0), [(1, (.negSucc 0)), (21, (.ofNat 1))]), ((.negSucc 68), [(0, (.ofNat 1)), (1, (.ofNat 1)), (21, (.negSucc 0))]), ((.negSucc 67), [(0, (.ofNat 1)), (1, (.ofNat 1)), (21, (.negSucc 0))]), ((.negSucc 0), [(0, (.negSucc 0)), (1, (.negSucc 0)), (21, (.ofNat 1))])], [qvK (.ofNat 1)], zh146, [(2, [1], []), (1, [1], []), (29, [6], [(sL 21), ((.ofNat 0), []), (sL 18), (sL 19), ((.ofNat 4), [])])]), 0, 0)])
noncomputable def c166_2_e : List Ct := [c162_20, c163_0, c167_28]
noncomputable def c166_2_pts : List PE := []
set_option maxRecDepth 100000 in
theorem c166_2_k : enCtF c166_2 c166_2_e (pkP (c166_2_pts ++ []) []) (none) ((hOr (hWpop 22 6) (hWz 42 6)), noM, 0, 4398050705408, 21) 3000 = true := by decide +kernel
set_option maxRecDepth 100000 in
theorem c166_2_v : ValidC PPk c166_2 := ct_ok fpk ⟨(hOr_ok (hWpop_ok 22 6) (hWz_ok 42 6)), noM_ok⟩ (d := 2) (ext := []) (pts := c166_2_pts) (env := c166_2_e) rfl (List.forall_mem_cons.mpr ⟨⟨c162_20_v, Nat.le_of_ble_eq_true rfl⟩, List.forall_mem_cons.mpr ⟨⟨c163_0_v, Nat.le_of_ble_eq_true rfl⟩, List.forall_mem_cons.mpr ⟨⟨c167_28_v, Nat.le_of_ble_eq_true rfl⟩, fun _ h => (by cases h)⟩⟩⟩) ext_nil (fun q h => (by cases h)) (enF c166_2_k) (fun _ h => (by cases h))

noncomputable def c167_29 : Ct := (167, 1, (23, (zt64 []), [], [qvR 0, qvK (.ofNat 7)], zh144, [(2, [1], []), (1, [1], []), (29, [6], [(sL 1), ((.ofNat 0), []), (sL 20), (sL 21), (sL 22)])]),
  [((23, [], [], [], zh145, [(2, [1], []), (1, [1], []), (29, [6], [((.ofNat 1), [(1, (.ofNat 1))]), ((.ofNat 0), []), (sL 20), (sL 21), ((.ofNat 4), [])])]), 0, 0)])
noncomputable def c167_29_e : List Ct := []
noncomputable def c167_29_pts : List PE := []
set_option maxRecDepth 100000 in
theorem c167_29_k : enCtF c167_29 c167_29_e (pkP (c167_29_pts ++ []) []) (none) (noF, (mWst 9), 0, 512, 23) 3000 = true := by decide +kernel
set_option maxRecDepth 100000 in
theorem c167_29_v : ValidC PPk c167_29 := ct_ok fpk ⟨noF_ok, (mWst_ok 9)⟩ (d := 0) (ext := []) (pts := c167_29_pts) (env := c167_29_e) rfl (fun _ h => (by cases h)) ext_nil (fun q h => (by cases h)) (enF c167_29_k) (fun _ h => (by cases h))

noncomputable def c166_3 : Ct := (166, 3, (21, (zt58 []), [((.negSucc 68), [(0, (.ofNat 1)), (1, (.ofNat 1))])], [qvR 0, qvK (.ofNat 7)], zh141, [(2, [1], []), (1, [1], []), (29, [6], [(sL 1), ((.ofNat 0), []), (sL 18), (sL 19), (sL 20)])]),
  [((22, [qtN 21 1 70], [((.negSucc 69), [(0, (.ofNat 1)), (1, (.ofNat 1))]), ((.negSucc 1), [(1, (.negSucc 0)), (21, (.ofNat 1))]), ((.negSucc 0), [(1, (.negSucc 0)), (21, (.ofNat 1))]), ((.negSucc 68), [(0, (.ofNat 1)), (1, (.ofNat 1)), (21, (.negSucc 0))]), ((.negSucc 67), [(0, (.ofNat 1)), (1, (.ofNat 1)), (21, (.negSucc 0))]), ((.negSucc 0), [(0, (.negSucc 0)), (1, (.negSucc 0)), (21, (.ofNat 1))])], [qvK (.ofNat 1)], zh146, [(2, [1], []), (1, [1], []), (29, [6], [(sL 21), ((.ofNat 0), []), (sL 18), (sL 19), ((.ofNat 4), [])])]), 0, 0)])
noncomputable def c166_3_e : List Ct := [c162_20, c163_0, c167_29]
noncomputable def c166_3_pts : List PE := []
set_option maxRecDepth 100000 in
theorem c166_3_k : enCtF c166_3 c166_3_e (pkP (c166_3_pts ++ []) []) (none) ((hOr (hWpop 22 6) (hWz 42 6)), noM, 0, 4398050705408, 21) 3000 = true := by decide +kernel
set_option maxRecDepth 100000 in
theorem c166_3_v : ValidC PPk c166_3 := ct_ok fpk ⟨(hOr_ok (hWpop_ok 22 6) (hWz_ok 42 6)), noM_ok⟩ (d := 2) (ext := []) (pts := c166_3_pts) (env := c166_3_e) rfl (List.forall_mem_cons.mpr ⟨⟨c162_20_v, Nat.le_of_ble_eq_true rfl⟩, List.forall_mem_cons.mpr ⟨⟨c163_0_v, Nat.le_of_ble_eq_true rfl⟩, List.forall_mem_cons.mpr ⟨⟨c167_29_v, Nat.le_of_ble_eq_true rfl⟩, fun _ h => (by cases h)⟩⟩⟩) ext_nil (fun q h => (by cases h)) (enF c166_3_k) (fun _ h => (by cases h))

noncomputable def c167_30 : Ct := (167, 1, (23, (zt63 []), [], [qvR 0, qvK (.ofNat 5)], zh144, [(2, [1], []), (1, [1], []), (29, [6], [(sL 1), ((.ofNat 0), []), (sL 20), (sL 21), (sL 22)])]),
  [((23, [], [], [], zh145, [(2, [1], []), (1, [1], []), (29, [6], [((.ofNat 1), [(1, (.ofNat 1))]), ((.ofNat 0), []), (sL 20), (sL 21), ((.ofNat 5), [])])]), 0, 0)])
noncomputable def c167_30_e : List Ct := []
noncomputable def c167_30_pts : List PE := []
set_option maxRecDepth 100000 in
theorem c167_30_k : enCtF c167_30 c167_30_e (pkP (c167_30_pts ++ []) []) (none) (noF, (mWst 9), 0, 512, 23) 3000 = true := by decide +kernel
set_option maxRecDepth 100000 in
theorem c167_30_v : ValidC PPk c167_30 := ct_ok fpk ⟨noF_ok, (mWst_ok 9)⟩ (d := 0) (ext := []) (pts := c167_30_pts) (env := c167_30_e) rfl (fun _ h => (by cases h)) ext_nil (fun q h => (by cases h)) (enF c167_30_k) (fun _ h => (by cases h))

noncomputable def c166_4 : Ct := (166, 3, (21, (zt58 []), [((.negSucc 68), [(0, (.ofNat 1)), (1, (.ofNat 1))])], [qvR 0, qvK (.ofNat 5)], zh141, [(2, [1], []), (1, [1], []), (29, [6], [(sL 1), ((.ofNat 0), []), (sL 18), (sL 19), (sL 20)])]),
  [((22, [qtN 21 1 70], [((.negSucc 69), [(0, (.ofNat 1)), (1, (.ofNat 1))]), ((.negSucc 1), [(1, (.negSucc 0)), (21, (.ofNat 1))]), ((.negSucc 0), [(1, (.negSucc 0)), (21, (.ofNat 1))]), ((.negSucc 68), [(0, (.ofNat 1)), (1, (.ofNat 1)), (21, (.negSucc 0))]), ((.negSucc 67), [(0, (.ofNat 1)), (1, (.ofNat 1)), (21, (.negSucc 0))]), ((.negSucc 0), [(0, (.negSucc 0)), (1, (.negSucc 0)), (21, (.ofNat 1))])], [qvK (.ofNat 1)], zh146, [(2, [1], []), (1, [1], []), (29, [6], [(sL 21), ((.ofNat 0), []), (sL 18), (sL 19), ((.ofNat 5), [])])]), 0, 0)])
noncomputable def c166_4_e : List Ct := [c162_19, c163_0, c167_30]
noncomputable def c166_4_pts : List PE := []
set_option maxRecDepth 100000 in
theorem c166_4_k : enCtF c166_4 c166_4_e (pkP (c166_4_pts ++ []) []) (none) ((hOr (hWpop 22 6) (hWz 42 6)), noM, 0, 4398050705408, 21) 3000 = true := by decide +kernel
set_option maxRecDepth 100000 in
theorem c166_4_v : ValidC PPk c166_4 := ct_ok fpk ⟨(hOr_ok (hWpop_ok 22 6) (hWz_ok 42 6)), noM_ok⟩ (d := 2) (ext := []) (pts := c166_4_pts) (env := c166_4_e) rfl (List.forall_mem_cons.mpr ⟨⟨c162_19_v, Nat.le_of_ble_eq_true rfl⟩, List.forall_mem_cons.mpr ⟨⟨c163_0_v, Nat.le_of_ble_eq_true rfl⟩, List.forall_mem_cons.mpr ⟨⟨c167_30_v, Nat.le_of_ble_eq_true rfl⟩, fun _ h => (by cases h)⟩⟩⟩) ext_nil (fun q h => (by cases h)) (enF c166_4_k) (fun _ h => (by cases h))

noncomputable def c162_21 : Ct := (162, 2, (21, (zt58 []), [((.negSucc 68), [(0, (.ofNat 1)), (1, (.ofNat 1))])], [qvR 0, qvK (.ofNat 3)], zh141, [(2, [1], []), (1, [1], []), (29, [6], [(sL 1), ((.ofNat 0), []), (sL 18), (sL 19), (sL 20)])]),
  [((23, [qtN 21 0 69, qtN 22 0 2], [((.ofNat 0), [(0, (.negSucc 0)), (1, (.negSucc 0)), (21, (.ofNat 1))]), ((.negSucc 68), [(0, (.ofNat 1)), (1, (.ofNat 1)), (21, (.negSucc 0))]), ((.negSucc 69), [(0, (.ofNat 1)), (1, (.ofNat 1)), (21, (.negSucc 0))]), ((.negSucc 69), [(0, (.ofNat 1)), (1, (.ofNat 1))]), ((.ofNat 0), [(1, (.negSucc 0)), (21, (.ofNat 1))]), ((.negSucc 0), [(1, (.negSucc 0)), (21, (.ofNat 1))])], [], zh143, [(2, [1], []), (1, [1], []), (29, [6], [(sL 21), ((.ofNat 0), []), (sL 18), ((.ofNat 0), []), (sL 22)])]), 0, 0)])
noncomputable def c162_21_e : List Ct := [c163_0, c164_0]
noncomputable def c162_21_p0 : PE := (0, [0, 1], (24, (zt59 []), [((.negSucc 68), [(0, (.ofNat 1)), (1, (.ofNat 1))]), ((.negSucc 69), [(0, (.ofNat 1)), (1, (.ofNat 1))]), ((.ofNat 0), [(0, (.negSucc 0)), (1, (.negSucc 0)), (21, (.ofNat 1))]), ((.negSucc 68), [(0, (.ofNat 1)), (1, (.ofNat 1)), (21, (.negSucc 0))]), ((.negSucc 69), [(0, (.ofNat 1)), (1, (.ofNat 1)), (21, (.negSucc 0))]), ((.ofNat 0), [(1, (.negSucc 0)), (21, (.ofNat 1))]), ((.negSucc 0), [(1, (.negSucc 0)), (21, (.ofNat 1))])], [qvR 0, qvK (.ofNat 3)], zh143, [(2, [1], []), (1, [1], []), (29, [6], [(sL 21), ((.ofNat 0), []), (sL 18), (sL 22), (sL 23)])]), symsL 21 0, some ((.ofNat 139), [(0, (.negSucc 0)), (1, (.negSucc 0)), (21, (.ofNat 1))]), 0, 0)
noncomputable def c162_21_pts : List PE := [c162_21_p0]
set_option maxRecDepth 100000 in
theorem c162_21_k : enCtF c162_21 c162_21_e (pkP (c162_21_pts ++ []) [0]) (none) ((hOr (hWpop 7 6) (hWz 52 6)), noM, 1, 4503599627370624, 21) 3000 = true := by decide +kernel
set_option maxRecDepth 100000 in
theorem c162_21_k0 : ptCtF c162_21 c162_21_e (pkP (c162_21_pts ++ []) [0]) ((hOr (hWpop 7 6) (hWz 52 6)), noM, 1, 4503599627370624, 21) 3000 c162_21_p0 = true := by decide +kernel
set_option maxRecDepth 100000 in
theorem c162_21_v : ValidC PPk c162_21 := ct_ok fpk ⟨(hOr_ok (hWpop_ok 7 6) (hWz_ok 52 6)), noM_ok⟩ (d := 1) (ext := []) (pts := c162_21_pts) (env := c162_21_e) rfl (List.forall_mem_cons.mpr ⟨⟨c163_0_v, Nat.le_of_ble_eq_true rfl⟩, List.forall_mem_cons.mpr ⟨⟨c164_0_v, Nat.le_of_ble_eq_true rfl⟩, fun _ h => (by cases h)⟩⟩) ext_nil (fun q h => (by cases h)) (enF c162_21_k) (List.forall_mem_cons.mpr ⟨⟨_, ptF c162_21_k0⟩, fun _ h => (by cases h)⟩)

noncomputable def zt65 (r : TbL) : TbL := qtN 0 0 69 :: qtN 1 0 69 :: qtN 2 0 8 :: qtA 3 :: qtA 4 :: qtA 5 :: qtA 6 :: qtA 7 :: qtA 8 :: qtA 9 :: qtN 21 0 1 :: qtN 22 0 2 :: r
noncomputable def c167_31 : Ct := (167, 1, (23, (zt65 []), [], [qvR 0, qvK (.ofNat 8)], zh144, [(2, [1], []), (1, [1], []), (29, [6], [(sL 1), ((.ofNat 0), []), (sL 20), (sL 21), (sL 22)])]),
  [((23, [], [], [], zh145, [(2, [1], []), (1, [1], []), (29, [6], [((.ofNat 1), [(1, (.ofNat 1))]), ((.ofNat 0), []), (sL 20), ((.ofNat 1), []), ((.ofNat 3), [])])]), 0, 0)])
noncomputable def c167_31_e : List Ct := []
noncomputable def c167_31_pts : List PE := []
set_option maxRecDepth 100000 in
theorem c167_31_k : enCtF c167_31 c167_31_e (pkP (c167_31_pts ++ []) []) (none) (noF, (mWst 9), 0, 512, 23) 3000 = true := by decide +kernel
set_option maxRecDepth 100000 in
theorem c167_31_v : ValidC PPk c167_31 := ct_ok fpk ⟨noF_ok, (mWst_ok 9)⟩ (d := 0) (ext := []) (pts := c167_31_pts) (env := c167_31_e) rfl (fun _ h => (by cases h)) ext_nil (fun q h => (by cases h)) (enF c167_31_k) (fun _ h => (by cases h))

noncomputable def c166_5 : Ct := (166, 3, (21, (zt58 []), [((.negSucc 68), [(0, (.ofNat 1)), (1, (.ofNat 1))])], [qvR 0, qvK (.ofNat 8)], zh141, [(2, [1], []), (1, [1], []), (29, [6], [(sL 1), ((.ofNat 0), []), (sL 18), (sL 19), (sL 20)])]),
  [((22, [qtN 19 0 0, qtN 21 1 70], [((.negSucc 69), [(0, (.ofNat 1)), (1, (.ofNat 1))]), ((.negSucc 0), [(0, (.negSucc 0)), (1, (.negSucc 0)), (21, (.ofNat 1))]), ((.negSucc 67), [(0, (.ofNat 1)), (1, (.ofNat 1)), (21, (.negSucc 0))]), ((.negSucc 68), [(0, (.ofNat 1)), (1, (.ofNat 1)), (21, (.negSucc 0))])], [qvK (.ofNat 1)], zh146, [(2, [1], []), (1, [1], []), (29, [6], [(sL 21), ((.ofNat 0), []), (sL 18), ((.ofNat 1), []), ((.ofNat 3), [])])]), 0, 0),
   ((22, [qtN 19 1 1, qtN 21 1 69], [((.negSucc 69), [(0, (.ofNat 1)), (1, (.ofNat 1))]), ((.negSucc 0), [(1, (.negSucc 0)), (21, (.ofNat 1))]), ((.ofNat 0), [(1, (.negSucc 0)), (21, (.ofNat 1))]), ((.negSucc 69), [(0, (.ofNat 1)), (1, (.ofNat 1)), (21, (.negSucc 0))]), ((.negSucc 68), [(0, (.ofNat 1)), (1, (.ofNat 1)), (21, (.negSucc 0))]), ((.ofNat 0), [(0, (.negSucc 0)), (1, (.negSucc 0)), (21, (.ofNat 1))])], [qvK (.ofNat 0)], zh143, [(2, [1], []), (1, [1], []), (29, [6], [(sL 21), ((.ofNat 0), []), (sL 18), (sL 19), ((.ofNat 3), [])])]), 0, 0)])
noncomputable def c166_5_e : List Ct := [c162_20, c162_21, c163_0, c167_31]
noncomputable def c166_5_pts : List PE := []
set_option maxRecDepth 100000 in
theorem c166_5_k : enCtF c166_5 c166_5_e (pkP (c166_5_pts ++ []) []) (none) ((hOr (hWpop 22 6) (hWz 42 6)), noM, 0, 4398050705408, 21) 3000 = true := by decide +kernel
set_option maxRecDepth 100000 in
theorem c166_5_v : ValidC PPk c166_5 := ct_ok fpk ⟨(hOr_ok (hWpop_ok 22 6) (hWz_ok 42 6)), noM_ok⟩ (d := 2) (ext := []) (pts := c166_5_pts) (env := c166_5_e) rfl (List.forall_mem_cons.mpr ⟨⟨c162_20_v, Nat.le_of_ble_eq_true rfl⟩, List.forall_mem_cons.mpr ⟨⟨c162_21_v, Nat.le_of_ble_eq_true rfl⟩, List.forall_mem_cons.mpr ⟨⟨c163_0_v, Nat.le_of_ble_eq_true rfl⟩, List.forall_mem_cons.mpr ⟨⟨c167_31_v, Nat.le_of_ble_eq_true rfl⟩, fun _ h => (by cases h)⟩⟩⟩⟩) ext_nil (fun q h => (by cases h)) (enF c166_5_k) (fun _ h => (by cases h))

noncomputable def c167_32 : Ct := (167, 1, (23, (zt65 []), [], [qvR 0, qvK (.ofNat 10)], zh144, [(2, [1], []), (1, [1], []), (29, [6], [(sL 1), ((.ofNat 0), []), (sL 20), (sL 21), (sL 22)])]),
  [((23, [], [], [], zh145, [(2, [1], []), (1, [1], []), (29, [6], [((.ofNat 1), [(1, (.ofNat 1))]), ((.ofNat 0), []), (sL 20), ((.ofNat 1), []), ((.ofNat 3), [])])]), 0, 0)])
noncomputable def c167_32_e : List Ct := []
noncomputable def c167_32_pts : List PE := []
set_option maxRecDepth 100000 in
theorem c167_32_k : enCtF c167_32 c167_32_e (pkP (c167_32_pts ++ []) []) (none) (noF, (mWst 9), 0, 512, 23) 3000 = true := by decide +kernel
set_option maxRecDepth 100000 in
theorem c167_32_v : ValidC PPk c167_32 := ct_ok fpk ⟨noF_ok, (mWst_ok 9)⟩ (d := 0) (ext := []) (pts := c167_32_pts) (env := c167_32_e) rfl (fun _ h => (by cases h)) ext_nil (fun q h => (by cases h)) (enF c167_32_k) (fun _ h => (by cases h))

noncomputable def c166_6 : Ct := (166, 3, (21, (zt58 []), [((.negSucc 68), [(0, (.ofNat 1)), (1, (.ofNat 1))])], [qvR 0, qvK (.ofNat 10)], zh141, [(2, [1], []), (1, [1], []), (29, [6], [(sL 1), ((.ofNat 0), []), (sL 18), (sL 19), (sL 20)])]),
  [((22, [qtN 19 0 0, qtN 21 1 70], [((.negSucc 69), [(0, (.ofNat 1)), (1, (.ofNat 1))]), ((.negSucc 0), [(0, (.negSucc 0)), (1, (.negSucc 0)), (21, (.ofNat 1))]), ((.negSucc 67), [(0, (.ofNat 1)), (1, (.ofNat 1)), (21, (.negSucc 0))]), ((.negSucc 68), [(0, (.ofNat 1)), (1, (.ofNat 1)), (21, (.negSucc 0))])], [qvK (.ofNat 1)], zh146, [(2, [1], []), (1, [1], []), (29, [6], [(sL 21), ((.ofNat 0), []), (sL 18), ((.ofNat 1), []), ((.ofNat 3), [])])]), 0, 0),
   ((22, [qtN 19 1 1, qtN 21 1 69], [((.negSucc 69), [(0, (.ofNat 1)), (1, (.ofNat 1))]), ((.negSucc 0), [(1, (.negSucc 0)), (21, (.ofNat 1))]), ((.ofNat 0), [(1, (.negSucc 0)), (21, (.ofNat 1))]), ((.negSucc 69), [(0, (.ofNat 1)), (1, (.ofNat 1)), (21, (.negSucc 0))]), ((.negSucc 68), [(0, (.ofNat 1)), (1, (.ofNat 1)), (21, (.negSucc 0))]), ((.ofNat 0), [(0, (.negSucc 0)), (1, (.negSucc 0)), (21, (.ofNat 1))])], [qvK (.ofNat 0)], zh143, [(2, [1], []), (1, [1], []), (29, [6], [(sL 21), ((.ofNat 0), []), (sL 18), (sL 19), ((.ofNat 3), [])])]), 0, 0)])
noncomputable def c166_6_e : List Ct := [c162_20, c162_21, c163_0, c167_32]
noncomputable def c166_6_pts : List PE := []
set_option maxRecDepth 100000 in
theorem c166_6_k : enCtF c166_6 c166_6_e (pkP (c166_6_pts ++ []) []) (none) ((hOr (hWpop 22 6) (hWz 42 6)), noM, 0, 4398050705408, 21) 3000 = true := by decide +kernel
set_option maxRecDepth 100000 in
theorem c166_6_v : ValidC PPk c166_6 := ct_ok fpk ⟨(hOr_ok (hWpop_ok 22 6) (hWz_ok 42 6)), noM_ok⟩ (d := 2) (ext := []) (pts := c166_6_pts) (env := c166_6_e) rfl (List.forall_mem_cons.mpr ⟨⟨c162_20_v, Nat.le_of_ble_eq_true rfl⟩, List.forall_mem_cons.mpr ⟨⟨c162_21_v, Nat.le_of_ble_eq_true rfl⟩, List.forall_mem_cons.mpr ⟨⟨c163_0_v, Nat.le_of_ble_eq_true rfl⟩, List.forall_mem_cons.mpr ⟨⟨c167_32_v, Nat.le_of_ble_eq_true rfl⟩, fun _ h => (by cases h)⟩⟩⟩⟩) ext_nil (fun q h => (by cases h)) (enF c166_6_k) (fun _ h => (by cases h))

noncomputable def c167_33 : Ct := (167, 1, (23, (zt65 []), [], [qvR 0, qvK (.ofNat 9)], zh144, [(2, [1], []), (1, [1], []), (29, [6], [(sL 1), ((.ofNat 0), []), (sL 20), (sL 21), (sL 22)])]),
  [((23, [], [], [], zh145, [(2, [1], []), (1, [1], []), (29, [6], [((.ofNat 1), [(1, (.ofNat 1))]), ((.ofNat 0), []), (sL 20), ((.ofNat 1), []), ((.ofNat 3), [])])]), 0, 0)])
noncomputable def c167_33_e : List Ct := []
noncomputable def c167_33_pts : List PE := []
set_option maxRecDepth 100000 in
theorem c167_33_k : enCtF c167_33 c167_33_e (pkP (c167_33_pts ++ []) []) (none) (noF, (mWst 9), 0, 512, 23) 3000 = true := by decide +kernel
set_option maxRecDepth 100000 in
theorem c167_33_v : ValidC PPk c167_33 := ct_ok fpk ⟨noF_ok, (mWst_ok 9)⟩ (d := 0) (ext := []) (pts := c167_33_pts) (env := c167_33_e) rfl (fun _ h => (by cases h)) ext_nil (fun q h => (by cases h)) (enF c167_33_k) (fun _ h => (by cases h))

noncomputable def c166_7 : Ct := (166, 3, (21, (zt58 []), [((.negSucc 68), [(0, (.ofNat 1)), (1, (.ofNat 1))])], [qvR 0, qvK (.ofNat 9)], zh141, [(2, [1], []), (1, [1], []), (29, [6], [(sL 1), ((.ofNat 0), []), (sL 18), (sL 19), (sL 20)])]),
  [((22, [qtN 19 0 0, qtN 21 1 70], [((.negSucc 69), [(0, (.ofNat 1)), (1, (.ofNat 1))]), ((.negSucc 0), [(0, (.negSucc 0)), (1, (.negSucc 0)), (21, (.ofNat 1))]), ((.negSucc 67), [(0, (.ofNat 1)), (1, (.ofNat 1)), (21, (.negSucc 0))]), ((.negSucc 68), [(0, (.ofNat 1)), (1, (.ofNat 1)), (21, (.negSucc 0))])], [qvK (.ofNat 1)], zh146, [(2, [1], []), (1, [1], []), (29, [6], [(sL 21), ((.ofNat 0), []), (sL 18), ((.ofNat 1), []), ((.ofNat 3), [])])]), 0, 0),
   ((22, [qtN 19 1 1, qtN 21 1 69], [((.negSucc 69), [(0, (.ofNat 1)), (1, (.ofNat 1))]), ((.negSucc 0), [(1, (.negSucc 0)), (21, (.ofNat 1))]), ((.ofNat 0), [(1, (.negSucc 0)), (21, (.ofNat 1))]), ((.negSucc 69), [(0, (.ofNat 1)), (1, (.ofNat 1)), (21, (.negSucc 0))]), ((.negSucc 68), [(0, (.ofNat 1)), (1, (.ofNat 1)), (21, (.negSucc 0))]), ((.ofNat 0), [(0, (.negSucc 0)), (1, (.negSucc 0)), (21, (.ofNat 1))])], [qvK (.ofNat 0)], zh143, [(2, [1], []), (1, [1], []), (29, [6], [(sL 21), ((.ofNat 0), []), (sL 18), (sL 19), ((.ofNat 3), [])])]), 0, 0)])
noncomputable def c166_7_e : List Ct := [c162_20, c162_21, c163_0, c167_33]
noncomputable def c166_7_pts : List PE := []
set_option maxRecDepth 100000 in
theorem c166_7_k : enCtF c166_7 c166_7_e (pkP (c166_7_pts ++ []) []) (none) ((hOr (hWpop 22 6) (hWz 42 6)), noM, 0, 4398050705408, 21) 3000 = true := by decide +kernel
set_option maxRecDepth 100000 in
theorem c166_7_v : ValidC PPk c166_7 := ct_ok fpk ⟨(hOr_ok (hWpop_ok 22 6) (hWz_ok 42 6)), noM_ok⟩ (d := 2) (ext := []) (pts := c166_7_pts) (env := c166_7_e) rfl (List.forall_mem_cons.mpr ⟨⟨c162_20_v, Nat.le_of_ble_eq_true rfl⟩, List.forall_mem_cons.mpr ⟨⟨c162_21_v, Nat.le_of_ble_eq_true rfl⟩, List.forall_mem_cons.mpr ⟨⟨c163_0_v, Nat.le_of_ble_eq_true rfl⟩, List.forall_mem_cons.mpr ⟨⟨c167_33_v, Nat.le_of_ble_eq_true rfl⟩, fun _ h => (by cases h)⟩⟩⟩⟩) ext_nil (fun q h => (by cases h)) (enF c166_7_k) (fun _ h => (by cases h))

noncomputable def zt66 (r : TbL) : TbL := qtN 0 0 69 :: qtN 1 0 69 :: qtN 2 0 8 :: qtA 3 :: qtA 4 :: qtA 5 :: qtA 6 :: qtA 7 :: qtA 8 :: qtA 9 :: qtN 21 0 1 :: qtN 22 0 0 :: r
noncomputable def c167_34 : Ct := (167, 1, (23, (zt66 []), [], [qvR 0, qvK (.ofNat 12)], zh144, [(2, [1], []), (1, [1], []), (29, [6], [(sL 1), ((.ofNat 0), []), (sL 20), (sL 21), (sL 22)])]),
  [((23, [], [], [], zh145, [(2, [1], []), (1, [1], []), (29, [6], [((.ofNat 1), [(1, (.ofNat 1))]), ((.ofNat 0), []), (sL 20), (sL 21), ((.ofNat 1), [])])]), 0, 0)])
noncomputable def c167_34_e : List Ct := []
noncomputable def c167_34_pts : List PE := []
set_option maxRecDepth 100000 in
theorem c167_34_k : enCtF c167_34 c167_34_e (pkP (c167_34_pts ++ []) []) (none) (noF, (mWst 9), 0, 512, 23) 3000 = true := by decide +kernel
set_option maxRecDepth 100000 in
theorem c167_34_v : ValidC PPk c167_34 := ct_ok fpk ⟨noF_ok, (mWst_ok 9)⟩ (d := 0) (ext := []) (pts := c167_34_pts) (env := c167_34_e) rfl (fun _ h => (by cases h)) ext_nil (fun q h => (by cases h)) (enF c167_34_k) (fun _ h => (by cases h))

noncomputable def c166_8 : Ct := (166, 3, (21, (zt58 []), [((.negSucc 68), [(0, (.ofNat 1)), (1, (.ofNat 1))])], [qvR 0, qvK (.ofNat 12)], zh141, [(2, [1], []), (1, [1], []), (29, [6], [(sL 1), ((.ofNat 0), []), (sL 18), (sL 19), (sL 20)])]),
  [((21, [], [((.negSucc 69), [(0, (.ofNat 1)), (1, (.ofNat 1))]), (sL 18), ((.ofNat 0), [(18, (.negSucc 0))])], [qvK (.ofNat 1)], [qoC 12 [qvR 1, qvR 2, qvR 3, .inl (false, ((.ofNat 0), [(0, (.ofNat 1)), (1, (.ofNat 1))])), qvR 4, qvR 5, qvK (.ofNat 1), qvR 6, qvR 7, qvS 2, qvR 8, qvS 3, qvR 9, qvR 10, qvR 11, qvR 12, qvS 4, qvS 5, qvS 6, qvR 13, qvS 7, qvS 8, qvS 9, qvR 14], qkC 100 10, qkC 100 11, qkC 103 12, qiC 0 [qgA 70], qiC 0 [qgA 70], qiC 0 [qgA 70], qjC 1 70, qjC 1 8, qkC 100 13, qkC 100 14, qkC 100 15, qkC 100 16, qkC 100 17, qjC 1 4], [(2, [1], []), (1, [1], []), (29, [6], [((.ofNat 1), []), ((.ofNat 0), []), (sL 18), ((.ofNat 0), []), ((.ofNat 1), [])])]), 0, 0)])
noncomputable def c166_8_e : List Ct := [c162_0, c163_0, c167_34]
noncomputable def c166_8_pts : List PE := []
set_option maxRecDepth 100000 in
theorem c166_8_k : enCtF c166_8 c166_8_e (pkP (c166_8_pts ++ []) []) (none) ((hOr (hWpop 22 6) (hWz 42 6)), noM, 0, 4398050705408, 21) 3000 = true := by decide +kernel
set_option maxRecDepth 100000 in
theorem c166_8_v : ValidC PPk c166_8 := ct_ok fpk ⟨(hOr_ok (hWpop_ok 22 6) (hWz_ok 42 6)), noM_ok⟩ (d := 2) (ext := []) (pts := c166_8_pts) (env := c166_8_e) rfl (List.forall_mem_cons.mpr ⟨⟨c162_0_v, Nat.le_of_ble_eq_true rfl⟩, List.forall_mem_cons.mpr ⟨⟨c163_0_v, Nat.le_of_ble_eq_true rfl⟩, List.forall_mem_cons.mpr ⟨⟨c167_34_v, Nat.le_of_ble_eq_true rfl⟩, fun _ h => (by cases h)⟩⟩⟩) ext_nil (fun q h => (by cases h)) (enF c166_8_k) (fun _ h => (by cases h))

noncomputable def c162_22 : Ct := (162, 2, (21, (zt58 []), [((.negSucc 68), [(0, (.ofNat 1)), (1, (.ofNat 1))])], [qvR 0, qvK (.ofNat 2)], zh141, [(2, [1], []), (1, [1], []), (29, [6], [(sL 1), ((.ofNat 1), []), (sL 18), (sL 19), (sL 20)])]),
  [((23, [qtN 21 1 69, qtN 22 0 1], [((.ofNat 0), [(0, (.negSucc 0)), (1, (.negSucc 0)), (21, (.ofNat 1))]), ((.negSucc 68), [(0, (.ofNat 1)), (1, (.ofNat 1)), (21, (.negSucc 0))]), ((.negSucc 69), [(0, (.ofNat 1)), (1, (.ofNat 1)), (21, (.negSucc 0))]), ((.negSucc 69), [(0, (.ofNat 1)), (1, (.ofNat 1))]), ((.ofNat 0), [(1, (.negSucc 0)), (21, (.ofNat 1))]), ((.negSucc 0), [(1, (.negSucc 0)), (21, (.ofNat 1))])], [], zh143, [(2, [1], []), (1, [1], []), (29, [6], [(sL 21), ((.ofNat 1), []), (sL 18), ((.ofNat 0), []), (sL 22)])]), 0, 0)])
noncomputable def c162_22_e : List Ct := [c163_0, c164_0]
noncomputable def c162_22_p0 : PE := (0, [0, 1], (24, (zt59 []), [((.negSucc 68), [(0, (.ofNat 1)), (1, (.ofNat 1))]), ((.negSucc 69), [(0, (.ofNat 1)), (1, (.ofNat 1))]), ((.ofNat 0), [(0, (.negSucc 0)), (1, (.negSucc 0)), (21, (.ofNat 1))]), ((.negSucc 68), [(0, (.ofNat 1)), (1, (.ofNat 1)), (21, (.negSucc 0))]), ((.negSucc 69), [(0, (.ofNat 1)), (1, (.ofNat 1)), (21, (.negSucc 0))]), ((.ofNat 0), [(1, (.negSucc 0)), (21, (.ofNat 1))]), ((.negSucc 0), [(1, (.negSucc 0)), (21, (.ofNat 1))])], [qvR 0, qvK (.ofNat 2)], zh143, [(2, [1], []), (1, [1], []), (29, [6], [(sL 21), ((.ofNat 1), []), (sL 18), (sL 22), (sL 23)])]), symsL 21 0, some ((.ofNat 139), [(0, (.negSucc 0)), (1, (.negSucc 0)), (21, (.ofNat 1))]), 0, 0)
noncomputable def c162_22_pts : List PE := [c162_22_p0]
set_option maxRecDepth 100000 in
theorem c162_22_k : enCtF c162_22 c162_22_e (pkP (c162_22_pts ++ []) [0]) (none) ((hOr (hWpop 7 6) (hWz 52 6)), noM, 1, 4503599627370624, 21) 3000 = true := by decide +kernel
set_option maxRecDepth 100000 in
theorem c162_22_k0 : ptCtF c162_22 c162_22_e (pkP (c162_22_pts ++ []) [0]) ((hOr (hWpop 7 6) (hWz 52 6)), noM, 1, 4503599627370624, 21) 3000 c162_22_p0 = true := by decide +kernel
set_option maxRecDepth 100000 in
theorem c162_22_v : ValidC PPk c162_22 := ct_ok fpk ⟨(hOr_ok (hWpop_ok 7 6) (hWz_ok 52 6)), noM_ok⟩ (d := 1) (ext := []) (pts := c162_22_pts) (env := c162_22_e) rfl (List.forall_mem_cons.mpr ⟨⟨c163_0_v, Nat.le_of_ble_eq_true rfl⟩, List.forall_mem_cons.mpr ⟨⟨c164_0_v, Nat.le_of_ble_eq_true rfl⟩, fun _ h => (by cases h)⟩⟩) ext_nil (fun q h => (by cases h)) (enF c162_22_k) (List.forall_mem_cons.mpr ⟨⟨_, ptF c162_22_k0⟩, fun _ h => (by cases h)⟩)

noncomputable def c167_35 : Ct := (167, 1, (23, (zt62 []), [], [qvR 0, qvK (.ofNat 11)], zh144, [(2, [1], []), (1, [1], []), (29, [6], [(sL 1), ((.ofNat 1), []), (sL 20), (sL 21), (sL 22)])]),
  [((23, [], [], [], zh145, [(2, [1], []), (1, [1], []), (29, [6], [((.ofNat 1), [(1, (.ofNat 1))]), ((.ofNat 1), []), (sL 20), (sL 21), ((.ofNat 2), [])])]), 0, 0)])
noncomputable def c167_35_e : List Ct := []
noncomputable def c167_35_pts : List PE := []
set_option maxRecDepth 100000 in
theorem c167_35_k : enCtF c167_35 c167_35_e (pkP (c167_35_pts ++ []) []) (none) (noF, (mWst 9), 0, 512, 23) 3000 = true := by decide +kernel
set_option maxRecDepth 100000 in
theorem c167_35_v : ValidC PPk c167_35 := ct_ok fpk ⟨noF_ok, (mWst_ok 9)⟩ (d := 0) (ext := []) (pts := c167_35_pts) (env := c167_35_e) rfl (fun _ h => (by cases h)) ext_nil (fun q h => (by cases h)) (enF c167_35_k) (fun _ h => (by cases h))

noncomputable def c166_9 : Ct := (166, 3, (21, (zt58 []), [((.negSucc 68), [(0, (.ofNat 1)), (1, (.ofNat 1))])], [qvR 0, qvK (.ofNat 11)], zh141, [(2, [1], []), (1, [1], []), (29, [6], [(sL 1), ((.ofNat 1), []), (sL 18), (sL 19), (sL 20)])]),
  [((22, [qtN 1 1 69, qtN 21 2 70], [((.negSucc 69), [(0, (.ofNat 1)), (1, (.ofNat 1))]), ((.negSucc 1), [(1, (.negSucc 0)), (21, (.ofNat 1))]), ((.negSucc 0), [(1, (.negSucc 0)), (21, (.ofNat 1))]), ((.negSucc 68), [(0, (.ofNat 1)), (1, (.ofNat 1)), (21, (.negSucc 0))]), ((.negSucc 67), [(0, (.ofNat 1)), (1, (.ofNat 1)), (21, (.negSucc 0))]), ((.negSucc 0), [(0, (.negSucc 0)), (1, (.negSucc 0)), (21, (.ofNat 1))])], [qvK (.ofNat 1)], zh146, [(2, [1], []), (1, [1], []), (29, [6], [(sL 21), ((.ofNat 1), []), (sL 18), ((.ofNat 0), []), ((.ofNat 2), [])])]), 0, 0)])
noncomputable def c166_9_e : List Ct := [c162_22, c163_0, c167_35]
noncomputable def c166_9_pts : List PE := []
set_option maxRecDepth 100000 in
theorem c166_9_k : enCtF c166_9 c166_9_e (pkP (c166_9_pts ++ []) []) (none) ((hOr (hWpop 22 6) (hWz 42 6)), noM, 0, 4398050705408, 21) 3000 = true := by decide +kernel
set_option maxRecDepth 100000 in
theorem c166_9_v : ValidC PPk c166_9 := ct_ok fpk ⟨(hOr_ok (hWpop_ok 22 6) (hWz_ok 42 6)), noM_ok⟩ (d := 2) (ext := []) (pts := c166_9_pts) (env := c166_9_e) rfl (List.forall_mem_cons.mpr ⟨⟨c162_22_v, Nat.le_of_ble_eq_true rfl⟩, List.forall_mem_cons.mpr ⟨⟨c163_0_v, Nat.le_of_ble_eq_true rfl⟩, List.forall_mem_cons.mpr ⟨⟨c167_35_v, Nat.le_of_ble_eq_true rfl⟩, fun _ h => (by cases h)⟩⟩⟩) ext_nil (fun q h => (by cases h)) (enF c166_9_k) (fun _ h => (by cases h))

noncomputable def c162_23 : Ct := (162, 2, (21, (zt58 []), [((.negSucc 68), [(0, (.ofNat 1)), (1, (.ofNat 1))])], [qvR 0, qvK (.ofNat 5)], zh141, [(2, [1], []), (1, [1], []), (29, [6], [(sL 1), ((.ofNat 1), []), (sL 18), (sL 19), (sL 20)])]),
  [((23, [qtN 21 1 69, qtN 22 0 4], [((.ofNat 0), [(0, (.negSucc 0)), (1, (.negSucc 0)), (21, (.ofNat 1))]), ((.negSucc 68), [(0, (.ofNat 1)), (1, (.ofNat 1)), (21, (.negSucc 0))]), ((.negSucc 69), [(0, (.ofNat 1)), (1, (.ofNat 1)), (21, (.negSucc 0))]), ((.negSucc 69), [(0, (.ofNat 1)), (1, (.ofNat 1))]), ((.ofNat 0), [(1, (.negSucc 0)), (21, (.ofNat 1))]), ((.negSucc 0), [(1, (.negSucc 0)), (21, (.ofNat 1))])], [], zh143, [(2, [1], []), (1, [1], []), (29, [6], [(sL 21), ((.ofNat 1), []), (sL 18), (sL 19), (sL 22)])]), 0, 0)])
noncomputable def c162_23_e : List Ct := [c163_0, c164_0]
noncomputable def c162_23_p0 : PE := (0, [0, 1], (23, (zt61 []), [((.negSucc 68), [(0, (.ofNat 1)), (1, (.ofNat 1))]), ((.negSucc 69), [(0, (.ofNat 1)), (1, (.ofNat 1))]), ((.ofNat 0), [(0, (.negSucc 0)), (1, (.negSucc 0)), (21, (.ofNat 1))]), ((.negSucc 68), [(0, (.ofNat 1)), (1, (.ofNat 1)), (21, (.negSucc 0))]), ((.negSucc 69), [(0, (.ofNat 1)), (1, (.ofNat 1)), (21, (.negSucc 0))]), ((.ofNat 0), [(1, (.negSucc 0)), (21, (.ofNat 1))]), ((.negSucc 0), [(1, (.negSucc 0)), (21, (.ofNat 1))])], [qvR 0, qvK (.ofNat 5)], zh143, [(2, [1], []), (1, [1], []), (29, [6], [(sL 21), ((.ofNat 1), []), (sL 18), (sL 19), (sL 22)])]), symsL 21 0, some ((.ofNat 139), [(0, (.negSucc 0)), (1, (.negSucc 0)), (21, (.ofNat 1))]), 0, 0)
noncomputable def c162_23_pts : List PE := [c162_23_p0]
set_option maxRecDepth 100000 in
theorem c162_23_k : enCtF c162_23 c162_23_e (pkP (c162_23_pts ++ []) [0]) (none) ((hOr (hWpop 7 6) (hWz 52 6)), noM, 1, 4503599627370624, 21) 3000 = true := by decide +kernel
set_option maxRecDepth 100000 in
theorem c162_23_k0 : ptCtF c162_23 c162_23_e (pkP (c162_23_pts ++ []) [0]) ((hOr (hWpop 7 6) (hWz 52 6)), noM, 1, 4503599627370624, 21) 3000 c162_23_p0 = true := by decide +kernel
set_option maxRecDepth 100000 in
theorem c162_23_v : ValidC PPk c162_23 := ct_ok fpk ⟨(hOr_ok (hWpop_ok 7 6) (hWz_ok 52 6)), noM_ok⟩ (d := 1) (ext := []) (pts := c162_23_pts) (env := c162_23_e) rfl (List.forall_mem_cons.mpr ⟨⟨c163_0_v, Nat.le_of_ble_eq_true rfl⟩, List.forall_mem_cons.mpr ⟨⟨c164_0_v, Nat.le_of_ble_eq_true rfl⟩, fun _ h => (by cases h)⟩⟩) ext_nil (fun q h => (by cases h)) (enF c162_23_k) (List.forall_mem_cons.mpr ⟨⟨_, ptF c162_23_k0⟩, fun _ h => (by cases h)⟩)

noncomputable def c167_36 : Ct := (167, 1, (23, (zt63 []), [], [qvR 0, qvK (.ofNat 4)], zh144, [(2, [1], []), (1, [1], []), (29, [6], [(sL 1), ((.ofNat 1), []), (sL 20), (sL 21), (sL 22)])]),
  [((23, [], [], [], zh145, [(2, [1], []), (1, [1], []), (29, [6], [((.ofNat 1), [(1, (.ofNat 1))]), ((.ofNat 1), []), (sL 20), (sL 21), ((.ofNat 5), [])])]), 0, 0)])
noncomputable def c167_36_e : List Ct := []
noncomputable def c167_36_pts : List PE := []
set_option maxRecDepth 100000 in
theorem c167_36_k : enCtF c167_36 c167_36_e (pkP (c167_36_pts ++ []) []) (none) (noF, (mWst 9), 0, 512, 23) 3000 = true := by decide +kernel
set_option maxRecDepth 100000 in
theorem c167_36_v : ValidC PPk c167_36 := ct_ok fpk ⟨noF_ok, (mWst_ok 9)⟩ (d := 0) (ext := []) (pts := c167_36_pts) (env := c167_36_e) rfl (fun _ h => (by cases h)) ext_nil (fun q h => (by cases h)) (enF c167_36_k) (fun _ h => (by cases h))

noncomputable def c166_10 : Ct := (166, 3, (21, (zt58 []), [((.negSucc 68), [(0, (.ofNat 1)), (1, (.ofNat 1))])], [qvR 0, qvK (.ofNat 4)], zh141, [(2, [1], []), (1, [1], []), (29, [6], [(sL 1), ((.ofNat 1), []), (sL 18), (sL 19), (sL 20)])]),
  [((22, [qtN 1 1 69, qtN 21 2 70], [((.negSucc 69), [(0, (.ofNat 1)), (1, (.ofNat 1))]), ((.negSucc 1), [(1, (.negSucc 0)), (21, (.ofNat 1))]), ((.negSucc 0), [(1, (.negSucc 0)), (21, (.ofNat 1))]), ((.negSucc 68), [(0, (.ofNat 1)), (1, (.ofNat 1)), (21, (.negSucc 0))]), ((.negSucc 67), [(0, (.ofNat 1)), (1, (.ofNat 1)), (21, (.negSucc 0))]), ((.negSucc 0), [(0, (.negSucc 0)), (1, (.negSucc 0)), (21, (.ofNat 1))])], [qvK (.ofNat 1)], zh146, [(2, [1], []), (1, [1], []), (29, [6], [(sL 21), ((.ofNat 1), []), (sL 18), (sL 19), ((.ofNat 5), [])])]), 0, 0)])
noncomputable def c166_10_e : List Ct := [c162_23, c163_0, c167_36]
noncomputable def c166_10_pts : List PE := []
set_option maxRecDepth 100000 in
theorem c166_10_k : enCtF c166_10 c166_10_e (pkP (c166_10_pts ++ []) []) (none) ((hOr (hWpop 22 6) (hWz 42 6)), noM, 0, 4398050705408, 21) 3000 = true := by decide +kernel
set_option maxRecDepth 100000 in
theorem c166_10_v : ValidC PPk c166_10 := ct_ok fpk ⟨(hOr_ok (hWpop_ok 22 6) (hWz_ok 42 6)), noM_ok⟩ (d := 2) (ext := []) (pts := c166_10_pts) (env := c166_10_e) rfl (List.forall_mem_cons.mpr ⟨⟨c162_23_v, Nat.le_of_ble_eq_true rfl⟩, List.forall_mem_cons.mpr ⟨⟨c163_0_v, Nat.le_of_ble_eq_true rfl⟩, List.forall_mem_cons.mpr ⟨⟨c167_36_v, Nat.le_of_ble_eq_true rfl⟩, fun _ h => (by cases h)⟩⟩⟩) ext_nil (fun q h => (by cases h)) (enF c166_10_k) (fun _ h => (by cases h))

noncomputable def c162_24 : Ct := (162, 2, (21, (zt58 []), [((.negSucc 68), [(0, (.ofNat 1)), (1, (.ofNat 1))])], [qvR 0, qvK (.ofNat 4)], zh141, [(2, [1], []), (1, [1], []), (29, [6], [(sL 1), ((.ofNat 1), []), (sL 18), (sL 19), (sL 20)])]),
  [((23, [qtN 21 1 69, qtN 22 0 3], [((.ofNat 0), [(0, (.negSucc 0)), (1, (.negSucc 0)), (21, (.ofNat 1))]), ((.negSucc 68), [(0, (.ofNat 1)), (1, (.ofNat 1)), (21, (.negSucc 0))]), ((.negSucc 69), [(0, (.ofNat 1)), (1, (.ofNat 1)), (21, (.negSucc 0))]), ((.negSucc 69), [(0, (.ofNat 1)), (1, (.ofNat 1))]), ((.ofNat 0), [(1, (.negSucc 0)), (21, (.ofNat 1))]), ((.negSucc 0), [(1, (.negSucc 0)), (21, (.ofNat 1))])], [], zh143, [(2, [1], []), (1, [1], []), (29, [6], [(sL 21), ((.ofNat 1), []), (sL 18), (sL 19), (sL 22)])]), 0, 0)])
noncomputable def c162_24_e : List Ct := [c163_0, c164_0]
noncomputable def c162_24_p0 : PE := (0, [0, 1], (23, (zt61 []), [((.negSucc 68), [(0, (.ofNat 1)), (1, (.ofNat 1))]), ((.negSucc 69), [(0, (.ofNat 1)), (1, (.ofNat 1))]), ((.ofNat 0), [(0, (.negSucc 0)), (1, (.negSucc 0)), (21, (.ofNat 1))]), ((.negSucc 68), [(0, (.ofNat 1)), (1, (.ofNat 1)), (21, (.negSucc 0))]), ((.negSucc 69), [(0, (.ofNat 1)), (1, (.ofNat 1)), (21, (.negSucc 0))]), ((.ofNat 0), [(1, (.negSucc 0)), (21, (.ofNat 1))]), ((.negSucc 0), [(1, (.negSucc 0)), (21, (.ofNat 1))])], [qvR 0, qvK (.ofNat 4)], zh143, [(2, [1], []), (1, [1], []), (29, [6], [(sL 21), ((.ofNat 1), []), (sL 18), (sL 19), (sL 22)])]), symsL 21 0, some ((.ofNat 139), [(0, (.negSucc 0)), (1, (.negSucc 0)), (21, (.ofNat 1))]), 0, 0)
noncomputable def c162_24_pts : List PE := [c162_24_p0]
set_option maxRecDepth 100000 in
theorem c162_24_k : enCtF c162_24 c162_24_e (pkP (c162_24_pts ++ []) [0]) (none) ((hOr (hWpop 7 6) (hWz 52 6)), noM, 1, 4503599627370624, 21) 3000 = true := by decide +kernel
set_option maxRecDepth 100000 in
theorem c162_24_k0 : ptCtF c162_24 c162_24_e (pkP (c162_24_pts ++ []) [0]) ((hOr (hWpop 7 6) (hWz 52 6)), noM, 1, 4503599627370624, 21) 3000 c162_24_p0 = true := by decide +kernel
set_option maxRecDepth 100000 in
theorem c162_24_v : ValidC PPk c162_24 := ct_ok fpk ⟨(hOr_ok (hWpop_ok 7 6) (hWz_ok 52 6)), noM_ok⟩ (d := 1) (ext := []) (pts := c162_24_pts) (env := c162_24_e) rfl (List.forall_mem_cons.mpr ⟨⟨c163_0_v, Nat.le_of_ble_eq_true rfl⟩, List.forall_mem_cons.mpr ⟨⟨c164_0_v, Nat.le_of_ble_eq_true rfl⟩, fun _ h => (by cases h)⟩⟩) ext_nil (fun q h => (by cases h)) (enF c162_24_k) (List.forall_mem_cons.mpr ⟨⟨_, ptF c162_24_k0⟩, fun _ h => (by cases h)⟩)

noncomputable def c167_37 : Ct := (167, 1, (23, (zt64 []), [], [qvR 0, qvK (.ofNat 6)], zh144, [(2, [1], []), (1, [1], []), (29, [6], [(sL 1), ((.ofNat 1), []), (sL 20), (sL 21), (sL 22)])]),
  [((23, [], [], [], zh145, [(2, [1], []), (1, [1], []), (29, [6], [((.ofNat 1), [(1, (.ofNat 1))]), ((.ofNat 1), []), (sL 20), (sL 21), ((.ofNat 4), [])])]), 0, 0)])
noncomputable def c167_37_e : List Ct := []
noncomputable def c167_37_pts : List PE := []
set_option maxRecDepth 100000 in
theorem c167_37_k : enCtF c167_37 c167_37_e (pkP (c167_37_pts ++ []) []) (none) (noF, (mWst 9), 0, 512, 23) 3000 = true := by decide +kernel
set_option maxRecDepth 100000 in
theorem c167_37_v : ValidC PPk c167_37 := ct_ok fpk ⟨noF_ok, (mWst_ok 9)⟩ (d := 0) (ext := []) (pts := c167_37_pts) (env := c167_37_e) rfl (fun _ h => (by cases h)) ext_nil (fun q h => (by cases h)) (enF c167_37_k) (fun _ h => (by cases h))

noncomputable def c166_11 : Ct := (166, 3, (21, (zt58 []), [((.negSucc 68), [(0, (.ofNat 1)), (1, (.ofNat 1))])], [qvR 0, qvK (.ofNat 6)], zh141, [(2, [1], []), (1, [1], []), (29, [6], [(sL 1), ((.ofNat 1), []), (sL 18), (sL 19), (sL 20)])]),
  [((22, [qtN 1 1 69, qtN 21 2 70], [((.negSucc 69), [(0, (.ofNat 1)), (1, (.ofNat 1))]), ((.negSucc 1), [(1, (.negSucc 0)), (21, (.ofNat 1))]), ((.negSucc 0), [(1, (.negSucc 0)), (21, (.ofNat 1))]), ((.negSucc 68), [(0, (.ofNat 1)), (1, (.ofNat 1)), (21, (.negSucc 0))]), ((.negSucc 67), [(0, (.ofNat 1)), (1, (.ofNat 1)), (21, (.negSucc 0))]), ((.negSucc 0), [(0, (.negSucc 0)), (1, (.negSucc 0)), (21, (.ofNat 1))])], [qvK (.ofNat 1)], zh146, [(2, [1], []), (1, [1], []), (29, [6], [(sL 21), ((.ofNat 1), []), (sL 18), (sL 19), ((.ofNat 4), [])])]), 0, 0)])
noncomputable def c166_11_e : List Ct := [c162_24, c163_0, c167_37]
noncomputable def c166_11_pts : List PE := []
set_option maxRecDepth 100000 in
theorem c166_11_k : enCtF c166_11 c166_11_e (pkP (c166_11_pts ++ []) []) (none) ((hOr (hWpop 22 6) (hWz 42 6)), noM, 0, 4398050705408, 21) 3000 = true := by decide +kernel
set_option maxRecDepth 100000 in
theorem c166_11_v : ValidC PPk c166_11 := ct_ok fpk ⟨(hOr_ok (hWpop_ok 22 6) (hWz_ok 42 6)), noM_ok⟩ (d := 2) (ext := []) (pts := c166_11_pts) (env := c166_11_e) rfl (List.forall_mem_cons.mpr ⟨⟨c162_24_v, Nat.le_of_ble_eq_true rfl⟩, List.forall_mem_cons.mpr ⟨⟨c163_0_v, Nat.le_of_ble_eq_true rfl⟩, List.forall_mem_cons.mpr ⟨⟨c167_37_v, Nat.le_of_ble_eq_true rfl⟩, fun _ h => (by cases h)⟩⟩⟩) ext_nil (fun q h => (by cases h)) (enF c166_11_k) (fun _ h => (by cases h))

noncomputable def c167_38 : Ct := (167, 1, (23, (zt64 []), [], [qvR 0, qvK (.ofNat 7)], zh144, [(2, [1], []), (1, [1], []), (29, [6], [(sL 1), ((.ofNat 1), []), (sL 20), (sL 21), (sL 22)])]),
  [((23, [], [], [], zh145, [(2, [1], []), (1, [1], []), (29, [6], [((.ofNat 1), [(1, (.ofNat 1))]), ((.ofNat 1), []), (sL 20), (sL 21), ((.ofNat 4), [])])]), 0, 0)])
noncomputable def c167_38_e : List Ct := []
noncomputable def c167_38_pts : List PE := []
set_option maxRecDepth 100000 in
theorem c167_38_k : enCtF c167_38 c167_38_e (pkP (c167_38_pts ++ []) []) (none) (noF, (mWst 9), 0, 512, 23) 3000 = true := by decide +kernel
set_option maxRecDepth 100000 in
theorem c167_38_v : ValidC PPk c167_38 := ct_ok fpk ⟨noF_ok, (mWst_ok 9)⟩ (d := 0) (ext := []) (pts := c167_38_pts) (env := c167_38_e) rfl (fun _ h => (by cases h)) ext_nil (fun q h => (by cases h)) (enF c167_38_k) (fun _ h => (by cases h))

noncomputable def c166_12 : Ct := (166, 3, (21, (zt58 []), [((.negSucc 68), [(0, (.ofNat 1)), (1, (.ofNat 1))])], [qvR 0, qvK (.ofNat 7)], zh141, [(2, [1], []), (1, [1], []), (29, [6], [(sL 1), ((.ofNat 1), []), (sL 18), (sL 19), (sL 20)])]),
  [((22, [qtN 1 1 69, qtN 21 2 70], [((.negSucc 69), [(0, (.ofNat 1)), (1, (.ofNat 1))]), ((.negSucc 1), [(1, (.negSucc 0)), (21, (.ofNat 1))]), ((.negSucc 0), [(1, (.negSucc 0)), (21, (.ofNat 1))]), ((.negSucc 68), [(0, (.ofNat 1)), (1, (.ofNat 1)), (21, (.negSucc 0))]), ((.negSucc 67), [(0, (.ofNat 1)), (1, (.ofNat 1)), (21, (.negSucc 0))]), ((.negSucc 0), [(0, (.negSucc 0)), (1, (.negSucc 0)), (21, (.ofNat 1))])], [qvK (.ofNat 1)], zh146, [(2, [1], []), (1, [1], []), (29, [6], [(sL 21), ((.ofNat 1), []), (sL 18), (sL 19), ((.ofNat 4), [])])]), 0, 0)])
noncomputable def c166_12_e : List Ct := [c162_24, c163_0, c167_38]
noncomputable def c166_12_pts : List PE := []
set_option maxRecDepth 100000 in
theorem c166_12_k : enCtF c166_12 c166_12_e (pkP (c166_12_pts ++ []) []) (none) ((hOr (hWpop 22 6) (hWz 42 6)), noM, 0, 4398050705408, 21) 3000 = true := by decide +kernel
set_option maxRecDepth 100000 in
theorem c166_12_v : ValidC PPk c166_12 := ct_ok fpk ⟨(hOr_ok (hWpop_ok 22 6) (hWz_ok 42 6)), noM_ok⟩ (d := 2) (ext := []) (pts := c166_12_pts) (env := c166_12_e) rfl (List.forall_mem_cons.mpr ⟨⟨c162_24_v, Nat.le_of_ble_eq_true rfl⟩, List.forall_mem_cons.mpr ⟨⟨c163_0_v, Nat.le_of_ble_eq_true rfl⟩, List.forall_mem_cons.mpr ⟨⟨c167_38_v, Nat.le_of_ble_eq_true rfl⟩, fun _ h => (by cases h)⟩⟩⟩) ext_nil (fun q h => (by cases h)) (enF c166_12_k) (fun _ h => (by cases h))

noncomputable def c167_39 : Ct := (167, 1, (23, (zt63 []), [], [qvR 0, qvK (.ofNat 5)], zh144, [(2, [1], []), (1, [1], []), (29, [6], [(sL 1), ((.ofNat 1), []), (sL 20), (sL 21), (sL 22)])]),
  [((23, [], [], [], zh145, [(2, [1], []), (1, [1], []), (29, [6], [((.ofNat 1), [(1, (.ofNat 1))]), ((.ofNat 1), []), (sL 20), (sL 21), ((.ofNat 5), [])])]), 0, 0)])
noncomputable def c167_39_e : List Ct := []
noncomputable def c167_39_pts : List PE := []
set_option maxRecDepth 100000 in
theorem c167_39_k : enCtF c167_39 c167_39_e (pkP (c167_39_pts ++ []) []) (none) (noF, (mWst 9), 0, 512, 23) 3000 = true := by decide +kernel
set_option maxRecDepth 100000 in
theorem c167_39_v : ValidC PPk c167_39 := ct_ok fpk ⟨noF_ok, (mWst_ok 9)⟩ (d := 0) (ext := []) (pts := c167_39_pts) (env := c167_39_e) rfl (fun _ h => (by cases h)) ext_nil (fun q h => (by cases h)) (enF c167_39_k) (fun _ h => (by cases h))

noncomputable def c166_13 : Ct := (166, 3, (21, (zt58 []), [((.negSucc 68), [(0, (.ofNat 1)), (1, (.ofNat 1))])], [qvR 0, qvK (.ofNat 5)], zh141, [(2, [1], []), (1, [1], []), (29, [6], [(sL 1), ((.ofNat 1), []), (sL 18), (sL 19), (sL 20)])]),
  [((22, [qtN 1 1 69, qtN 21 2 70], [((.negSucc 69), [(0, (.ofNat 1)), (1, (.ofNat 1))]), ((.negSucc 1), [(1, (.negSucc 0)), (21, (.ofNat 1))]), ((.negSucc 0), [(1, (.negSucc 0)), (21, (.ofNat 1))]), ((.negSucc 68), [(0, (.ofNat 1)), (1, (.ofNat 1)), (21, (.negSucc 0))]), ((.negSucc 67), [(0, (.ofNat 1)), (1, (.ofNat 1)), (21, (.negSucc 0))]), ((.negSucc 0), [(0, (.negSucc 0)), (1, (.negSucc 0)), (21, (.ofNat 1))])], [qvK (.ofNat 1)], zh146, [(2, [1], []), (1, [1], []), (29, [6], [(sL 21), ((.ofNat 1), []), (sL 18), (sL 19), ((.ofNat 5), [])])]), 0, 0)])
noncomputable def c166_13_e : List Ct := [c162_23, c163_0, c167_39]
noncomputable def c166_13_pts : List PE := []
set_option maxRecDepth 100000 in
theorem c166_13_k : enCtF c166_13 c166_13_e (pkP (c166_13_pts ++ []) []) (none) ((hOr (hWpop 22 6) (hWz 42 6)), noM, 0, 4398050705408, 21) 3000 = true := by decide +kernel
set_option maxRecDepth 100000 in
theorem c166_13_v : ValidC PPk c166_13 := ct_ok fpk ⟨(hOr_ok (hWpop_ok 22 6) (hWz_ok 42 6)), noM_ok⟩ (d := 2) (ext := []) (pts := c166_13_pts) (env := c166_13_e) rfl (List.forall_mem_cons.mpr ⟨⟨c162_23_v, Nat.le_of_ble_eq_true rfl⟩, List.forall_mem_cons.mpr ⟨⟨c163_0_v, Nat.le_of_ble_eq_true rfl⟩, List.forall_mem_cons.mpr ⟨⟨c167_39_v, Nat.le_of_ble_eq_true rfl⟩, fun _ h => (by cases h)⟩⟩⟩) ext_nil (fun q h => (by cases h)) (enF c166_13_k) (fun _ h => (by cases h))

noncomputable def c162_25 : Ct := (162, 2, (21, (zt58 []), [((.negSucc 68), [(0, (.ofNat 1)), (1, (.ofNat 1))])], [qvR 0, qvK (.ofNat 3)], zh141, [(2, [1], []), (1, [1], []), (29, [6], [(sL 1), ((.ofNat 1), []), (sL 18), (sL 19), (sL 20)])]),
  [((23, [qtN 21 1 69, qtN 22 0 2], [((.ofNat 0), [(0, (.negSucc 0)), (1, (.negSucc 0)), (21, (.ofNat 1))]), ((.negSucc 68), [(0, (.ofNat 1)), (1, (.ofNat 1)), (21, (.negSucc 0))]), ((.negSucc 69), [(0, (.ofNat 1)), (1, (.ofNat 1)), (21, (.negSucc 0))]), ((.negSucc 69), [(0, (.ofNat 1)), (1, (.ofNat 1))]), ((.ofNat 0), [(1, (.negSucc 0)), (21, (.ofNat 1))]), ((.negSucc 0), [(1, (.negSucc 0)), (21, (.ofNat 1))])], [], zh143, [(2, [1], []), (1, [1], []), (29, [6], [(sL 21), ((.ofNat 1), []), (sL 18), ((.ofNat 0), []), (sL 22)])]), 0, 0)])
noncomputable def c162_25_e : List Ct := [c163_0, c164_0]
noncomputable def c162_25_p0 : PE := (0, [0, 1], (24, (zt59 []), [((.negSucc 68), [(0, (.ofNat 1)), (1, (.ofNat 1))]), ((.negSucc 69), [(0, (.ofNat 1)), (1, (.ofNat 1))]), ((.ofNat 0), [(0, (.negSucc 0)), (1, (.negSucc 0)), (21, (.ofNat 1))]), ((.negSucc 68), [(0, (.ofNat 1)), (1, (.ofNat 1)), (21, (.negSucc 0))]), ((.negSucc 69), [(0, (.ofNat 1)), (1, (.ofNat 1)), (21, (.negSucc 0))]), ((.ofNat 0), [(1, (.negSucc 0)), (21, (.ofNat 1))]), ((.negSucc 0), [(1, (.negSucc 0)), (21, (.ofNat 1))])], [qvR 0, qvK (.ofNat 3)], zh143, [(2, [1], []), (1, [1], []), (29, [6], [(sL 21), ((.ofNat 1), []), (sL 18), (sL 22), (sL 23)])]), symsL 21 0, some ((.ofNat 139), [(0, (.negSucc 0)), (1, (.negSucc 0)), (21, (.ofNat 1))]), 0, 0)
noncomputable def c162_25_pts : List PE := [c162_25_p0]
set_option maxRecDepth 100000 in
theorem c162_25_k : enCtF c162_25 c162_25_e (pkP (c162_25_pts ++ []) [0]) (none) ((hOr (hWpop 7 6) (hWz 52 6)), noM, 1, 4503599627370624, 21) 3000 = true := by decide +kernel
set_option maxRecDepth 100000 in
theorem c162_25_k0 : ptCtF c162_25 c162_25_e (pkP (c162_25_pts ++ []) [0]) ((hOr (hWpop 7 6) (hWz 52 6)), noM, 1, 4503599627370624, 21) 3000 c162_25_p0 = true := by decide +kernel
set_option maxRecDepth 100000 in
theorem c162_25_v : ValidC PPk c162_25 := ct_ok fpk ⟨(hOr_ok (hWpop_ok 7 6) (hWz_ok 52 6)), noM_ok⟩ (d := 1) (ext := []) (pts := c162_25_pts) (env := c162_25_e) rfl (List.forall_mem_cons.mpr ⟨⟨c163_0_v, Nat.le_of_ble_eq_true rfl⟩, List.forall_mem_cons.mpr ⟨⟨c164_0_v, Nat.le_of_ble_eq_true rfl⟩, fun _ h => (by cases h)⟩⟩) ext_nil (fun q h => (by cases h)) (enF c162_25_k) (List.forall_mem_cons.mpr ⟨⟨_, ptF c162_25_k0⟩, fun _ h => (by cases h)⟩)

noncomputable def c167_40 : Ct := (167, 1, (23, (zt65 []), [], [qvR 0, qvK (.ofNat 8)], zh144, [(2, [1], []), (1, [1], []), (29, [6], [(sL 1), ((.ofNat 1), []), (sL 20), (sL 21), (sL 22)])]),
  [((23, [], [], [], zh145, [(2, [1], []), (1, [1], []), (29, [6], [((.ofNat 1), [(1, (.ofNat 1))]), ((.ofNat 1), []), (sL 20), ((.ofNat 1), []), ((.ofNat 3), [])])]), 0, 0)])
noncomputable def c167_40_e : List Ct := []
noncomputable def c167_40_pts : List PE := []
set_option maxRecDepth 100000 in
theorem c167_40_k : enCtF c167_40 c167_40_e (pkP (c167_40_pts ++ []) []) (none) (noF, (mWst 9), 0, 512, 23) 3000 = true := by decide +kernel
set_option maxRecDepth 100000 in
theorem c167_40_v : ValidC PPk c167_40 := ct_ok fpk ⟨noF_ok, (mWst_ok 9)⟩ (d := 0) (ext := []) (pts := c167_40_pts) (env := c167_40_e) rfl (fun _ h => (by cases h)) ext_nil (fun q h => (by cases h)) (enF c167_40_k) (fun _ h => (by cases h))

noncomputable def c166_14 : Ct := (166, 3, (21, (zt58 []), [((.negSucc 68), [(0, (.ofNat 1)), (1, (.ofNat 1))])], [qvR 0, qvK (.ofNat 8)], zh141, [(2, [1], []), (1, [1], []), (29, [6], [(sL 1), ((.ofNat 1), []), (sL 18), (sL 19), (sL 20)])]),
  [((22, [qtN 1 1 69, qtN 19 0 0, qtN 21 2 70], [((.negSucc 69), [(0, (.ofNat 1)), (1, (.ofNat 1))]), ((.negSucc 0), [(0, (.negSucc 0)), (1, (.negSucc 0)), (21, (.ofNat 1))]), ((.negSucc 67), [(0, (.ofNat 1)), (1, (.ofNat 1)), (21, (.negSucc 0))]), ((.negSucc 68), [(0, (.ofNat 1)), (1, (.ofNat 1)), (21, (.negSucc 0))])], [qvK (.ofNat 1)], zh146, [(2, [1], []), (1, [1], []), (29, [6], [(sL 21), ((.ofNat 1), []), (sL 18), ((.ofNat 1), []), ((.ofNat 3), [])])]), 0, 0),
   ((22, [qtN 1 1 69, qtN 19 1 1, qtN 21 1 69], [((.negSucc 69), [(0, (.ofNat 1)), (1, (.ofNat 1))]), ((.negSucc 0), [(1, (.negSucc 0)), (21, (.ofNat 1))]), ((.ofNat 0), [(1, (.negSucc 0)), (21, (.ofNat 1))]), ((.negSucc 69), [(0, (.ofNat 1)), (1, (.ofNat 1)), (21, (.negSucc 0))]), ((.negSucc 68), [(0, (.ofNat 1)), (1, (.ofNat 1)), (21, (.negSucc 0))]), ((.ofNat 0), [(0, (.negSucc 0)), (1, (.negSucc 0)), (21, (.ofNat 1))])], [qvK (.ofNat 0)], zh143, [(2, [1], []), (1, [1], []), (29, [6], [(sL 21), ((.ofNat 1), []), (sL 18), (sL 19), ((.ofNat 3), [])])]), 0, 0)])
noncomputable def c166_14_e : List Ct := [c162_24, c162_25, c163_0, c167_40]
noncomputable def c166_14_pts : List PE := []
set_option maxRecDepth 100000 in
theorem c166_14_k : enCtF c166_14 c166_14_e (pkP (c166_14_pts ++ []) []) (none) ((hOr (hWpop 22 6) (hWz 42 6)), noM, 0, 4398050705408, 21) 3000 = true := by decide +kernel
set_option maxRecDepth 100000 in
theorem c166_14_v : ValidC PPk c166_14 := ct_ok fpk ⟨(hOr_ok (hWpop_ok 22 6) (hWz_ok 42 6)), noM_ok⟩ (d := 2) (ext := []) (pts := c166_14_pts) (env := c166_14_e) rfl (List.forall_mem_cons.mpr ⟨⟨c162_24_v, Nat.le_of_ble_eq_true rfl⟩, List.forall_mem_cons.mpr ⟨⟨c162_25_v, Nat.le_of_ble_eq_true rfl⟩, List.forall_mem_cons.mpr ⟨⟨c163_0_v, Nat.le_of_ble_eq_true rfl⟩, List.forall_mem_cons.mpr ⟨⟨c167_40_v, Nat.le_of_ble_eq_true rfl⟩, fun _ h => (by cases h)⟩⟩⟩⟩) ext_nil (fun q h => (by cases h)) (enF c166_14_k) (fun _ h => (by cases h))

noncomputable def c167_41 : Ct := (167, 1, (23, (zt65 []), [], [qvR 0, qvK (.ofNat 10)], zh144, [(2, [1], []), (1, [1], []), (29, [6], [(sL 1), ((.ofNat 1), []), (sL 20), (sL 21), (sL 22)])]),
  [((23, [], [], [], zh145, [(2, [1], []), (1, [1], []), (29, [6], [((.ofNat 1), [(1, (.ofNat 1))]), ((.ofNat 1), []), (sL 20), ((.ofNat 1), []), ((.ofNat 3), [])])]), 0, 0)])
noncomputable def c167_41_e : List Ct := []
noncomputable def c167_41_pts : List PE := []
set_option maxRecDepth 100000 in
theorem c167_41_k : enCtF c167_41 c167_41_e (pkP (c167_41_pts ++ []) []) (none) (noF, (mWst 9), 0, 512, 23) 3000 = true := by decide +kernel
set_option maxRecDepth 100000 in
theorem c167_41_v : ValidC PPk c167_41 := ct_ok fpk ⟨noF_ok, (mWst_ok 9)⟩ (d := 0) (ext := []) (pts := c167_41_pts) (env := c167_41_e) rfl (fun _ h => (by cases h)) ext_nil (fun q h => (by cases h)) (enF c167_41_k) (fun _ h => (by cases h))

noncomputable def c166_15 : Ct := (166, 3, (21, (zt58 []), [((.negSucc 68), [(0, (.ofNat 1)), (1, (.ofNat 1))])], [qvR 0, qvK (.ofNat 10)], zh141, [(2, [1], []), (1, [1], []), (29, [6], [(sL 1), ((.ofNat 1), []), (sL 18), (sL 19), (sL 20)])]),
  [((22, [qtN 1 1 69, qtN 19 0 0, qtN 21 2 70], [((.negSucc 69), [(0, (.ofNat 1)), (1, (.ofNat 1))]), ((.negSucc 0), [(0, (.negSucc 0)), (1, (.negSucc 0)), (21, (.ofNat 1))]), ((.negSucc 67), [(0, (.ofNat 1)), (1, (.ofNat 1)), (21, (.negSucc 0))]), ((.negSucc 68), [(0, (.ofNat 1)), (1, (.ofNat 1)), (21, (.negSucc 0))])], [qvK (.ofNat 1)], zh146, [(2, [1], []), (1, [1], []), (29, [6], [(sL 21), ((.ofNat 1), []), (sL 18), ((.ofNat 1), []), ((.ofNat 3), [])])]), 0, 0),
   ((22, [qtN 1 1 69, qtN 19 1 1, qtN 21 1 69], [((.negSucc 69), [(0, (.ofNat 1)), (1, (.ofNat 1))]), ((.negSucc 0), [(1, (.negSucc 0)), (21, (.ofNat 1))]), ((.ofNat 0), [(1, (.negSucc 0)), (21, (.ofNat 1))]), ((.negSucc 69), [(0, (.ofNat 1)), (1, (.ofNat 1)), (21, (.negSucc 0))]), ((.negSucc 68), [(0, (.ofNat 1)), (1, (.ofNat 1)), (21, (.negSucc 0))]), ((.ofNat 0), [(0, (.negSucc 0)), (1, (.negSucc 0)), (21, (.ofNat 1))])], [qvK (.ofNat 0)], zh143, [(2, [1], []), (1, [1], []), (29, [6], [(sL 21), ((.ofNat 1), []), (sL 18), (sL 19), ((.ofNat 3), [])])]), 0, 0)])
noncomputable def c166_15_e : List Ct := [c162_24, c162_25, c163_0, c167_41]
noncomputable def c166_15_pts : List PE := []
set_option maxRecDepth 100000 in
theorem c166_15_k : enCtF c166_15 c166_15_e (pkP (c166_15_pts ++ []) []) (none) ((hOr (hWpop 22 6) (hWz 42 6)), noM, 0, 4398050705408, 21) 3000 = true := by decide +kernel
set_option maxRecDepth 100000 in
theorem c166_15_v : ValidC PPk c166_15 := ct_ok fpk ⟨(hOr_ok (hWpop_ok 22 6) (hWz_ok 42 6)), noM_ok⟩ (d := 2) (ext := []) (pts := c166_15_pts) (env := c166_15_e) rfl (List.forall_mem_cons.mpr ⟨⟨c162_24_v, Nat.le_of_ble_eq_true rfl⟩, List.forall_mem_cons.mpr ⟨⟨c162_25_v, Nat.le_of_ble_eq_true rfl⟩, List.forall_mem_cons.mpr ⟨⟨c163_0_v, Nat.le_of_ble_eq_true rfl⟩, List.forall_mem_cons.mpr ⟨⟨c167_41_v, Nat.le_of_ble_eq_true rfl⟩, fun _ h => (by cases h)⟩⟩⟩⟩) ext_nil (fun q h => (by cases h)) (enF c166_15_k) (fun _ h => (by cases h))

noncomputable def c167_42 : Ct := (167, 1, (23, (zt65 []), [], [qvR 0, qvK (.ofNat 9)], zh144, [(2, [1], []), (1, [1], []), (29, [6], [(sL 1), ((.ofNat 1), []), (sL 20), (sL 21), (sL 22)])]),
  [((23, [], [], [], zh145, [(2, [1], []), (1, [1], []), (29, [6], [((.ofNat 1), [(1, (.ofNat 1))]), ((.ofNat 1), []), (sL 20), ((.ofNat 1), []), ((.ofNat 3), [])])]), 0, 0)])
noncomputable def c167_42_e : List Ct := []
noncomputable def c167_42_pts : List PE := []
set_option maxRecDepth 100000 in
theorem c167_42_k : enCtF c167_42 c167_42_e (pkP (c167_42_pts ++ []) []) (none) (noF, (mWst 9), 0, 512, 23) 3000 = true := by decide +kernel
set_option maxRecDepth 100000 in
theorem c167_42_v : ValidC PPk c167_42 := ct_ok fpk ⟨noF_ok, (mWst_ok 9)⟩ (d := 0) (ext := []) (pts := c167_42_pts) (env := c167_42_e) rfl (fun _ h => (by cases h)) ext_nil (fun q h => (by cases h)) (enF c167_42_k) (fun _ h => (by cases h))

noncomputable def c166_16 : Ct := (166, 3, (21, (zt58 []), [((.negSucc 68), [(0, (.ofNat 1)), (1, (.ofNat 1))])], [qvR 0, qvK (.ofNat 9)], zh141, [(2, [1], []), (1, [1], []), (29, [6], [(sL 1), ((.ofNat 1), []), (sL 18), (sL 19), (sL 20)])]),
  [((22, [qtN 1 1 69, qtN 19 0 0, qtN 21 2 70], [((.negSucc 69), [(0, (.ofNat 1)), (1, (.ofNat 1))]), ((.negSucc 0), [(0, (.negSucc 0)), (1, (.negSucc 0)), (21, (.ofNat 1))]), ((.negSucc 67), [(0, (.ofNat 1)), (1, (.ofNat 1)), (21, (.negSucc 0))]), ((.negSucc 68), [(0, (.ofNat 1)), (1, (.ofNat 1)), (21, (.negSucc 0))])], [qvK (.ofNat 1)], zh146, [(2, [1], []), (1, [1], []), (29, [6], [(sL 21), ((.ofNat 1), []), (sL 18), ((.ofNat 1), []), ((.ofNat 3), [])])]), 0, 0),
   ((22, [qtN 1 1 69, qtN 19 1 1, qtN 21 1 69], [((.negSucc 69), [(0, (.ofNat 1)), (1, (.ofNat 1))]), ((.negSucc 0), [(1, (.negSucc 0)), (21, (.ofNat 1))]), ((.ofNat 0), [(1, (.negSucc 0)), (21, (.ofNat 1))]), ((.negSucc 69), [(0, (.ofNat 1)), (1, (.ofNat 1)), (21, (.negSucc 0))]), ((.negSucc 68), [(0, (.ofNat 1)), (1, (.ofNat 1)), (21, (.negSucc 0))]), ((.ofNat 0), [(0, (.negSucc 0)), (1, (.negSucc 0)), (21, (.ofNat 1))])], [qvK (.ofNat 0)], zh143, [(2, [1], []), (1, [1], []), (29, [6], [(sL 21), ((.ofNat 1), []), (sL 18), (sL 19), ((.ofNat 3), [])])]), 0, 0)])
noncomputable def c166_16_e : List Ct := [c162_24, c162_25, c163_0, c167_42]
noncomputable def c166_16_pts : List PE := []
set_option maxRecDepth 100000 in
theorem c166_16_k : enCtF c166_16 c166_16_e (pkP (c166_16_pts ++ []) []) (none) ((hOr (hWpop 22 6) (hWz 42 6)), noM, 0, 4398050705408, 21) 3000 = true := by decide +kernel
set_option maxRecDepth 100000 in
theorem c166_16_v : ValidC PPk c166_16 := ct_ok fpk ⟨(hOr_ok (hWpop_ok 22 6) (hWz_ok 42 6)), noM_ok⟩ (d := 2) (ext := []) (pts := c166_16_pts) (env := c166_16_e) rfl (List.forall_mem_cons.mpr ⟨⟨c162_24_v, Nat.le_of_ble_eq_true rfl⟩, List.forall_mem_cons.mpr ⟨⟨c162_25_v, Nat.le_of_ble_eq_true rfl⟩, List.forall_mem_cons.mpr ⟨⟨c163_0_v, Nat.le_of_ble_eq_true rfl⟩, List.forall_mem_cons.mpr ⟨⟨c167_42_v, Nat.le_of_ble_eq_true rfl⟩, fun _ h => (by cases h)⟩⟩⟩⟩) ext_nil (fun q h => (by cases h)) (enF c166_16_k) (fun _ h => (by cases h))

noncomputable def c167_43 : Ct := (167, 1, (23, (zt66 []), [], [qvR 0, qvK (.ofNat 12)], zh144, [(2, [1], []), (1, [1], []), (29, [6], [(sL 1), ((.ofNat 1), []), (sL 20), (sL 21), (sL 22)])]),
  [((23, [], [], [], zh145, [(2, [1], []), (1, [1], []), (29, [6], [((.ofNat 1), [(1, (.ofNat 1))]), ((.ofNat 1), []), (sL 20), (sL 21), ((.ofNat 1), [])])]), 0, 0)])
noncomputable def c167_43_e : List Ct := []
noncomputable def c167_43_pts : List PE := []
set_option maxRecDepth 100000 in
theorem c167_43_k : enCtF c167_43 c167_43_e (pkP (c167_43_pts ++ []) []) (none) (noF, (mWst 9), 0, 512, 23) 3000 = true := by decide +kernel
set_option maxRecDepth 100000 in
theorem c167_43_v : ValidC PPk c167_43 := ct_ok fpk ⟨noF_ok, (mWst_ok 9)⟩ (d := 0) (ext := []) (pts := c167_43_pts) (env := c167_43_e) rfl (fun _ h => (by cases h)) ext_nil (fun q h => (by cases h)) (enF c167_43_k) (fun _ h => (by cases h))

noncomputable def c166_17 : Ct := (166, 3, (21, (zt58 []), [((.negSucc 68), [(0, (.ofNat 1)), (1, (.ofNat 1))])], [qvR 0, qvK (.ofNat 12)], zh141, [(2, [1], []), (1, [1], []), (29, [6], [(sL 1), ((.ofNat 1), []), (sL 18), (sL 19), (sL 20)])]),
  [((22, [qtN 1 1 69, qtN 21 2 70], [((.negSucc 69), [(0, (.ofNat 1)), (1, (.ofNat 1))]), ((.negSucc 1), [(1, (.negSucc 0)), (21, (.ofNat 1))]), ((.negSucc 0), [(1, (.negSucc 0)), (21, (.ofNat 1))]), ((.negSucc 68), [(0, (.ofNat 1)), (1, (.ofNat 1)), (21, (.negSucc 0))]), ((.negSucc 67), [(0, (.ofNat 1)), (1, (.ofNat 1)), (21, (.negSucc 0))]), ((.negSucc 0), [(0, (.negSucc 0)), (1, (.negSucc 0)), (21, (.ofNat 1))])], [qvK (.ofNat 1)], zh146, [(2, [1], []), (1, [1], []), (29, [6], [(sL 21), ((.ofNat 1), []), (sL 18), ((.ofNat 0), []), ((.ofNat 1), [])])]), 0, 0)])
noncomputable def c166_17_e : List Ct := [c162_2, c163_0, c167_43]
noncomputable def c166_17_pts : List PE := []
set_option maxRecDepth 100000 in
theorem c166_17_k : enCtF c166_17 c166_17_e (pkP (c166_17_pts ++ []) []) (none) ((hOr (hWpop 22 6) (hWz 42 6)), noM, 0, 4398050705408, 21) 3000 = true := by decide +kernel
set_option maxRecDepth 100000 in
theorem c166_17_v : ValidC PPk c166_17 := ct_ok fpk ⟨(hOr_ok (hWpop_ok 22 6) (hWz_ok 42 6)), noM_ok⟩ (d := 2) (ext := []) (pts := c166_17_pts) (env := c166_17_e) rfl (List.forall_mem_cons.mpr ⟨⟨c162_2_v, Nat.le_of_ble_eq_true rfl⟩, List.forall_mem_cons.mpr ⟨⟨c163_0_v, Nat.le_of_ble_eq_true rfl⟩, List.forall_mem_cons.mpr ⟨⟨c167_43_v, Nat.le_of_ble_eq_true rfl⟩, fun _ h => (by cases h)⟩⟩⟩) ext_nil (fun q h => (by cases h)) (enF c166_17_k) (fun _ h => (by cases h))

noncomputable def c162_26 : Ct := (162, 2, (21, (zt58 []), [((.negSucc 68), [(0, (.ofNat 1)), (1, (.ofNat 1))])], [qvR 0, qvK (.ofNat 2)], zh141, [(2, [1], []), (1, [1], []), (29, [6], [(sL 1), ((.ofNat 2), []), (sL 18), (sL 19), (sL 20)])]),
  [((23, [qtN 21 1 69, qtN 22 0 1], [((.ofNat 0), [(0, (.negSucc 0)), (1, (.negSucc 0)), (21, (.ofNat 1))]), ((.negSucc 68), [(0, (.ofNat 1)), (1, (.ofNat 1)), (21, (.negSucc 0))]), ((.negSucc 69), [(0, (.ofNat 1)), (1, (.ofNat 1)), (21, (.negSucc 0))]), ((.negSucc 69), [(0, (.ofNat 1)), (1, (.ofNat 1))]), ((.ofNat 0), [(1, (.negSucc 0)), (21, (.ofNat 1))]), ((.negSucc 0), [(1, (.negSucc 0)), (21, (.ofNat 1))])], [], zh143, [(2, [1], []), (1, [1], []), (29, [6], [(sL 21), ((.ofNat 2), []), (sL 18), ((.ofNat 0), []), (sL 22)])]), 0, 0)])
noncomputable def c162_26_e : List Ct := [c163_0, c164_0]
noncomputable def c162_26_p0 : PE := (0, [0, 1], (24, (zt59 []), [((.negSucc 68), [(0, (.ofNat 1)), (1, (.ofNat 1))]), ((.negSucc 69), [(0, (.ofNat 1)), (1, (.ofNat 1))]), ((.ofNat 0), [(0, (.negSucc 0)), (1, (.negSucc 0)), (21, (.ofNat 1))]), ((.negSucc 68), [(0, (.ofNat 1)), (1, (.ofNat 1)), (21, (.negSucc 0))]), ((.negSucc 69), [(0, (.ofNat 1)), (1, (.ofNat 1)), (21, (.negSucc 0))]), ((.ofNat 0), [(1, (.negSucc 0)), (21, (.ofNat 1))]), ((.negSucc 0), [(1, (.negSucc 0)), (21, (.ofNat 1))])], [qvR 0, qvK (.ofNat 2)], zh143, [(2, [1], []), (1, [1], []), (29, [6], [(sL 21), ((.ofNat 2), []), (sL 18), (sL 22), (sL 23)])]), symsL 21 0, some ((.ofNat 139), [(0, (.negSucc 0)), (1, (.negSucc 0)), (21, (.ofNat 1))]), 0, 0)
noncomputable def c162_26_pts : List PE := [c162_26_p0]
set_option maxRecDepth 100000 in
theorem c162_26_k : enCtF c162_26 c162_26_e (pkP (c162_26_pts ++ []) [0]) (none) ((hOr (hWpop 7 6) (hWz 52 6)), noM, 1, 4503599627370624, 21) 3000 = true := by decide +kernel
set_option maxRecDepth 100000 in
theorem c162_26_k0 : ptCtF c162_26 c162_26_e (pkP (c162_26_pts ++ []) [0]) ((hOr (hWpop 7 6) (hWz 52 6)), noM, 1, 4503599627370624, 21) 3000 c162_26_p0 = true := by decide +kernel
set_option maxRecDepth 100000 in
theorem c162_26_v : ValidC PPk c162_26 := ct_ok fpk ⟨(hOr_ok (hWpop_ok 7 6) (hWz_ok 52 6)), noM_ok⟩ (d := 1) (ext := []) (pts := c162_26_pts) (env := c162_26_e) rfl (List.forall_mem_cons.mpr ⟨⟨c163_0_v, Nat.le_of_ble_eq_true rfl⟩, List.forall_mem_cons.mpr ⟨⟨c164_0_v, Nat.le_of_ble_eq_true rfl⟩, fun _ h => (by cases h)⟩⟩) ext_nil (fun q h => (by cases h)) (enF c162_26_k) (List.forall_mem_cons.mpr ⟨⟨_, ptF c162_26_k0⟩, fun _ h => (by cases h)⟩)

noncomputable def c167_44 : Ct := (167, 1, (23, (zt62 []), [], [qvR 0, qvK (.ofNat 11)], zh144, [(2, [1], []), (1, [1], []), (29, [6], [(sL 1), ((.ofNat 2), []), (sL 20), (sL 21), (sL 22)])]),
  [((23, [], [], [], zh145, [(2, [1], []), (1, [1], []), (29, [6], [((.ofNat 1), [(1, (.ofNat 1))]), ((.ofNat 2), []), (sL 20), (sL 21), ((.ofNat 2), [])])]), 0, 0)])
noncomputable def c167_44_e : List Ct := []
noncomputable def c167_44_pts : List PE := []
set_option maxRecDepth 100000 in
theorem c167_44_k : enCtF c167_44 c167_44_e (pkP (c167_44_pts ++ []) []) (none) (noF, (mWst 9), 0, 512, 23) 3000 = true := by decide +kernel
set_option maxRecDepth 100000 in
theorem c167_44_v : ValidC PPk c167_44 := ct_ok fpk ⟨noF_ok, (mWst_ok 9)⟩ (d := 0) (ext := []) (pts := c167_44_pts) (env := c167_44_e) rfl (fun _ h => (by cases h)) ext_nil (fun q h => (by cases h)) (enF c167_44_k) (fun _ h => (by cases h))

noncomputable def c166_18 : Ct := (166, 3, (21, (zt58 []), [((.negSucc 68), [(0, (.ofNat 1)), (1, (.ofNat 1))])], [qvR 0, qvK (.ofNat 11)], zh141, [(2, [1], []), (1, [1], []), (29, [6], [(sL 1), ((.ofNat 2), []), (sL 18), (sL 19), (sL 20)])]),
  [((22, [qtN 1 1 69, qtN 21 2 70], [((.negSucc 69), [(0, (.ofNat 1)), (1, (.ofNat 1))]), ((.negSucc 1), [(1, (.negSucc 0)), (21, (.ofNat 1))]), ((.negSucc 0), [(1, (.negSucc 0)), (21, (.ofNat 1))]), ((.negSucc 68), [(0, (.ofNat 1)), (1, (.ofNat 1)), (21, (.negSucc 0))]), ((.negSucc 67), [(0, (.ofNat 1)), (1, (.ofNat 1)), (21, (.negSucc 0))]), ((.negSucc 0), [(0, (.negSucc 0)), (1, (.negSucc 0)), (21, (.ofNat 1))])], [qvK (.ofNat 1)], zh146, [(2, [1], []), (1, [1], []), (29, [6], [(sL 21), ((.ofNat 2), []), (sL 18), ((.ofNat 0), []), ((.ofNat 2), [])])]), 0, 0)])
noncomputable def c166_18_e : List Ct := [c162_26, c163_0, c167_44]
noncomputable def c166_18_pts : List PE := []
set_option maxRecDepth 100000 in
theorem c166_18_k : enCtF c166_18 c166_18_e (pkP (c166_18_pts ++ []) []) (none) ((hOr (hWpop 22 6) (hWz 42 6)), noM, 0, 4398050705408, 21) 3000 = true := by decide +kernel
set_option maxRecDepth 100000 in
theorem c166_18_v : ValidC PPk c166_18 := ct_ok fpk ⟨(hOr_ok (hWpop_ok 22 6) (hWz_ok 42 6)), noM_ok⟩ (d := 2) (ext := []) (pts := c166_18_pts) (env := c166_18_e) rfl (List.forall_mem_cons.mpr ⟨⟨c162_26_v, Nat.le_of_ble_eq_true rfl⟩, List.forall_mem_cons.mpr ⟨⟨c163_0_v, Nat.le_of_ble_eq_true rfl⟩, List.forall_mem_cons.mpr ⟨⟨c167_44_v, Nat.le_of_ble_eq_true rfl⟩, fun _ h => (by cases h)⟩⟩⟩) ext_nil (fun q h => (by cases h)) (enF c166_18_k) (fun _ h => (by cases h))

noncomputable def c162_27 : Ct := (162, 2, (21, (zt58 []), [((.negSucc 68), [(0, (.ofNat 1)), (1, (.ofNat 1))])], [qvR 0, qvK (.ofNat 5)], zh141, [(2, [1], []), (1, [1], []), (29, [6], [(sL 1), ((.ofNat 2), []), (sL 18), (sL 19), (sL 20)])]),
  [((23, [qtN 21 1 69, qtN 22 0 4], [((.ofNat 0), [(0, (.negSucc 0)), (1, (.negSucc 0)), (21, (.ofNat 1))]), ((.negSucc 68), [(0, (.ofNat 1)), (1, (.ofNat 1)), (21, (.negSucc 0))]), ((.negSucc 69), [(0, (.ofNat 1)), (1, (.ofNat 1)), (21, (.negSucc 0))]), ((.negSucc 69), [(0, (.ofNat 1)), (1, (.ofNat 1))]), ((.ofNat 0), [(1, (.negSucc 0)), (21, (.ofNat 1))]), ((.negSucc 0), [(1, (.negSucc 0)), (21, (.ofNat 1))])], [], zh143, [(2, [1], []), (1, [1], []), (29, [6], [(sL 21), ((.ofNat 2), []), (sL 18), (sL 19), (sL 22)])]), 0, 0)])
noncomputable def c162_27_e : List Ct := [c163_0, c164_0]
noncomputable def c162_27_p0 : PE := (0, [0, 1], (23, (zt61 []), [((.negSucc 68), [(0, (.ofNat 1)), (1, (.ofNat 1))]), ((.negSucc 69), [(0, (.ofNat 1)), (1, (.ofNat 1))]), ((.ofNat 0), [(0, (.negSucc 0)), (1, (.negSucc 0)), (21, (.ofNat 1))]), ((.negSucc 68), [(0, (.ofNat 1)), (1, (.ofNat 1)), (21, (.negSucc 0))]), ((.negSucc 69), [(0, (.ofNat 1)), (1, (.ofNat 1)), (21, (.negSucc 0))]), ((.ofNat 0), [(1, (.negSucc 0)), (21, (.ofNat 1))]), ((.negSucc 0), [(1, (.negSucc 0)), (21, (.ofNat 1))])], [qvR 0, qvK (.ofNat 5)], zh143, [(2, [1], []), (1, [1], []), (29, [6], [(sL 21), ((.ofNat 2), []), (sL 18), (sL 19), (sL 22)])]), symsL 21 0, some ((.ofNat 139), [(0, (.negSucc 0)), (1, (.negSucc 0)), (21, (.ofNat 1))]), 0, 0)
noncomputable def c162_27_pts : List PE := [c162_27_p0]
set_option maxRecDepth 100000 in
theorem c162_27_k : enCtF c162_27 c162_27_e (pkP (c162_27_pts ++ []) [0]) (none) ((hOr (hWpop 7 6) (hWz 52 6)), noM, 1, 4503599627370624, 21) 3000 = true := by decide +kernel
set_option maxRecDepth 100000 in
theorem c162_27_k0 : ptCtF c162_27 c162_27_e (pkP (c162_27_pts ++ []) [0]) ((hOr (hWpop 7 6) (hWz 52 6)), noM, 1, 4503599627370624, 21) 3000 c162_27_p0 = true := by decide +kernel
set_option maxRecDepth 100000 in
theorem c162_27_v : ValidC PPk c162_27 := ct_ok fpk ⟨(hOr_ok (hWpop_ok 7 6) (hWz_ok 52 6)), noM_ok⟩ (d := 1) (ext := []) (pts := c162_27_pts) (env := c162_27_e) rfl (List.forall_mem_cons.mpr ⟨⟨c163_0_v, Nat.le_of_ble_eq_true rfl⟩, List.forall_mem_cons.mpr ⟨⟨c164_0_v, Nat.le_of_ble_eq_true rfl⟩, fun _ h => (by cases h)⟩⟩) ext_nil (fun q h => (by cases h)) (enF c162_27_k) (List.forall_mem_cons.mpr ⟨⟨_, ptF c162_27_k0⟩, fun _ h => (by cases h)⟩)

noncomputable def c167_45 : Ct := (167, 1, (23, (zt63 []), [], [qvR 0, qvK (.ofNat 4)], zh144, [(2, [1], []), (1, [1], []), (29, [6], [(sL 1), ((.ofNat 2), []), (sL 20), (sL 21), (sL 22)])]),
  [((23, [], [], [], zh145, [(2, [1], []), (1, [1], []), (29, [6], [((.ofNat 1), [(1, (.ofNat 1))]), ((.ofNat 2), []), (sL 20), (sL 21), ((.ofNat 5), [])])]), 0, 0)])
noncomputable def c167_45_e : List Ct := []
noncomputable def c167_45_pts : List PE := []
set_option maxRecDepth 100000 in
theorem c167_45_k : enCtF c167_45 c167_45_e (pkP (c167_45_pts ++ []) []) (none) (noF, (mWst 9), 0, 512, 23) 3000 = true := by decide +kernel
set_option maxRecDepth 100000 in
theorem c167_45_v : ValidC PPk c167_45 := ct_ok fpk ⟨noF_ok, (mWst_ok 9)⟩ (d := 0) (ext := []) (pts := c167_45_pts) (env := c167_45_e) rfl (fun _ h => (by cases h)) ext_nil (fun q h => (by cases h)) (enF c167_45_k) (fun _ h => (by cases h))

noncomputable def c166_19 : Ct := (166, 3, (21, (zt58 []), [((.negSucc 68), [(0, (.ofNat 1)), (1, (.ofNat 1))])], [qvR 0, qvK (.ofNat 4)], zh141, [(2, [1], []), (1, [1], []), (29, [6], [(sL 1), ((.ofNat 2), []), (sL 18), (sL 19), (sL 20)])]),
  [((22, [qtN 1 1 69, qtN 21 2 70], [((.negSucc 69), [(0, (.ofNat 1)), (1, (.ofNat 1))]), ((.negSucc 1), [(1, (.negSucc 0)), (21, (.ofNat 1))]), ((.negSucc 0), [(1, (.negSucc 0)), (21, (.ofNat 1))]), ((.negSucc 68), [(0, (.ofNat 1)), (1, (.ofNat 1)), (21, (.negSucc 0))]), ((.negSucc 67), [(0, (.ofNat 1)), (1, (.ofNat 1)), (21, (.negSucc 0))]), ((.negSucc 0), [(0, (.negSucc 0)), (1, (.negSucc 0)), (21, (.ofNat 1))])], [qvK (.ofNat 1)], zh146, [(2, [1], []), (1, [1], []), (29, [6], [(sL 21), ((.ofNat 2), []), (sL 18), (sL 19), ((.ofNat 5), [])])]), 0, 0)])
noncomputable def c166_19_e : List Ct := [c162_27, c163_0, c167_45]
noncomputable def c166_19_pts : List PE := []
set_option maxRecDepth 100000 in
theorem c166_19_k : enCtF c166_19 c166_19_e (pkP (c166_19_pts ++ []) []) (none) ((hOr (hWpop 22 6) (hWz 42 6)), noM, 0, 4398050705408, 21) 3000 = true := by decide +kernel
set_option maxRecDepth 100000 in
theorem c166_19_v : ValidC PPk c166_19 := ct_ok fpk ⟨(hOr_ok (hWpop_ok 22 6) (hWz_ok 42 6)), noM_ok⟩ (d := 2) (ext := []) (pts := c166_19_pts) (env := c166_19_e) rfl (List.forall_mem_cons.mpr ⟨⟨c162_27_v, Nat.le_of_ble_eq_true rfl⟩, List.forall_mem_cons.mpr ⟨⟨c163_0_v, Nat.le_of_ble_eq_true rfl⟩, List.forall_mem_cons.mpr ⟨⟨c167_45_v, Nat.le_of_ble_eq_true rfl⟩, fun _ h => (by cases h)⟩⟩⟩) ext_nil (fun q h => (by cases h)) (enF c166_19_k) (fun _ h => (by cases h))

noncomputable def c162_28 : Ct := (162, 2, (21, (zt58 []), [((.negSucc 68), [(0, (.ofNat 1)), (1, (.ofNat 1))])], [qvR 0, qvK (.ofNat 4)], zh141, [(2, [1], []), (1, [1], []), (29, [6], [(sL 1), ((.ofNat 2), []), (sL 18), (sL 19), (sL 20)])]),
  [((23, [qtN 21 1 69, qtN 22 0 3], [((.ofNat 0), [(0, (.negSucc 0)), (1, (.negSucc 0)), (21, (.ofNat 1))]), ((.negSucc 68), [(0, (.ofNat 1)), (1, (.ofNat 1)), (21, (.negSucc 0))]), ((.negSucc 69), [(0, (.ofNat 1)), (1, (.ofNat 1)), (21, (.negSucc 0))]), ((.negSucc 69), [(0, (.ofNat 1)), (1, (.ofNat 1))]), ((.ofNat 0), [(1, (.negSucc 0)), (21, (.ofNat 1))]), ((.negSucc 0), [(1, (.negSucc 0)), (21, (.ofNat 1))])], [], zh143, [(2, [1], []), (1, [1], []), (29, [6], [(sL 21), ((.ofNat 2), []), (sL 18), (sL 19), (sL 22)])]), 0, 0)])
noncomputable def c162_28_e : List Ct := [c163_0, c164_0]
noncomputable def c162_28_p0 : PE := (0, [0, 1], (23, (zt61 []), [((.negSucc 68), [(0, (.ofNat 1)), (1, (.ofNat 1))]), ((.negSucc 69), [(0, (.ofNat 1)), (1, (.ofNat 1))]), ((.ofNat 0), [(0, (.negSucc 0)), (1, (.negSucc 0)), (21, (.ofNat 1))]), ((.negSucc 68), [(0, (.ofNat 1)), (1, (.ofNat 1)), (21, (.negSucc 0))]), ((.negSucc 69), [(0, (.ofNat 1)), (1, (.ofNat 1)), (21, (.negSucc 0))]), ((.ofNat 0), [(1, (.negSucc 0)), (21, (.ofNat 1))]), ((.negSucc 0), [(1, (.negSucc 0)), (21, (.ofNat 1))])], [qvR 0, qvK (.ofNat 4)], zh143, [(2, [1], []), (1, [1], []), (29, [6], [(sL 21), ((.ofNat 2), []), (sL 18), (sL 19), (sL 22)])]), symsL 21 0, some ((.ofNat 139), [(0, (.negSucc 0)), (1, (.negSucc 0)), (21, (.ofNat 1))]), 0, 0)
noncomputable def c162_28_pts : List PE := [c162_28_p0]
set_option maxRecDepth 100000 in
theorem c162_28_k : enCtF c162_28 c162_28_e (pkP (c162_28_pts ++ []) [0]) (none) ((hOr (hWpop 7 6) (hWz 52 6)), noM, 1, 4503599627370624, 21) 3000 = true := by decide +kernel
set_option maxRecDepth 100000 in
theorem c162_28_k0 : ptCtF c162_28 c162_28_e (pkP (c162_28_pts ++ []) [0]) ((hOr (hWpop 7 6) (hWz 52 6)), noM, 1, 4503599627370624, 21) 3000 c162_28_p0 = true := by decide +kernel
set_option maxRecDepth 100000 in
theorem c162_28_v : ValidC PPk c162_28 := ct_ok fpk ⟨(hOr_ok (hWpop_ok 7 6) (hWz_ok 52 6)), noM_ok⟩ (d := 1) (ext := []) (pts := c162_28_pts) (env := c162_28_e) rfl (List.forall_mem_cons.mpr ⟨⟨c163_0_v, Nat.le_of_ble_eq_true rfl⟩, List.forall_mem_cons.mpr ⟨⟨c164_0_v, Nat.le_of_ble_eq_true rfl⟩, fun _ h => (by cases h)⟩⟩) ext_nil (fun q h => (by cases h)) (enF c162_28_k) (List.forall_mem_cons.mpr ⟨⟨_, ptF c162_28_k0⟩, fun _ h => (by cases h)⟩)

noncomputable def c167_46 : Ct := (167, 1, (23, (zt64 []), [], [qvR 0, qvK (.ofNat 6)], zh144, [(2, [1], []), (1, [1], []), (29, [6], [(sL 1), ((.ofNat 2), []), (sL 20), (sL 21), (sL 22)])]),
  [((23, [], [], [], zh145, [(2, [1], []), (1, [1], []), (29, [6], [((.ofNat 1), [(1, (.ofNat 1))]), ((.ofNat 2), []), (sL 20), (sL 21), ((.ofNat 4), [])])]), 0, 0)])
noncomputable def c167_46_e : List Ct := []
noncomputable def c167_46_pts : List PE := []
set_option maxRecDepth 100000 in
theorem c167_46_k : enCtF c167_46 c167_46_e (pkP (c167_46_pts ++ []) []) (none) (noF, (mWst 9), 0, 512, 23) 3000 = true := by decide +kernel
set_option maxRecDepth 100000 in
theorem c167_46_v : ValidC PPk c167_46 := ct_ok fpk ⟨noF_ok, (mWst_ok 9)⟩ (d := 0) (ext := []) (pts := c167_46_pts) (env := c167_46_e) rfl (fun _ h => (by cases h)) ext_nil (fun q h => (by cases h)) (enF c167_46_k) (fun _ h => (by cases h))

noncomputable def c166_20 : Ct := (166, 3, (21, (zt58 []), [((.negSucc 68), [(0, (.ofNat 1)), (1, (.ofNat 1))])], [qvR 0, qvK (.ofNat 6)], zh141, [(2, [1], []), (1, [1], []), (29, [6], [(sL 1), ((.ofNat 2), []), (sL 18), (sL 19), (sL 20)])]),
  [((22, [qtN 1 1 69, qtN 21 2 70], [((.negSucc 69), [(0, (.ofNat 1)), (1, (.ofNat 1))]), ((.negSucc 1), [(1, (.negSucc 0)), (21, (.ofNat 1))]), ((.negSucc 0), [(1, (.negSucc 0)), (21, (.ofNat 1))]), ((.negSucc 68), [(0, (.ofNat 1)), (1, (.ofNat 1)), (21, (.negSucc 0))]), ((.negSucc 67), [(0, (.ofNat 1)), (1, (.ofNat 1)), (21, (.negSucc 0))]), ((.negSucc 0), [(0, (.negSucc 0)), (1, (.negSucc 0)), (21, (.ofNat 1))])], [qvK (.ofNat 1)], zh146, [(2, [1], []), (1, [1], []), (29, [6], [(sL 21), ((.ofNat 2), []), (sL 18), (sL 19), ((.ofNat 4), [])])]), 0, 0)])
noncomputable def c166_20_e : List Ct := [c162_28, c163_0, c167_46]
noncomputable def c166_20_pts : List PE := []
set_option maxRecDepth 100000 in
theorem c166_20_k : enCtF c166_20 c166_20_e (pkP (c166_20_pts ++ []) []) (none) ((hOr (hWpop 22 6) (hWz 42 6)), noM, 0, 4398050705408, 21) 3000 = true := by decide +kernel
set_option maxRecDepth 100000 in
theorem c166_20_v : ValidC PPk c166_20 := ct_ok fpk ⟨(hOr_ok (hWpop_ok 22 6) (hWz_ok 42 6)), noM_ok⟩ (d := 2) (ext := []) (pts := c166_20_pts) (env := c166_20_e) rfl (List.forall_mem_cons.mpr ⟨⟨c162_28_v, Nat.le_of_ble_eq_true rfl⟩, List.forall_mem_cons.mpr ⟨⟨c163_0_v, Nat.le_of_ble_eq_true rfl⟩, List.forall_mem_cons.mpr ⟨⟨c167_46_v, Nat.le_of_ble_eq_true rfl⟩, fun _ h => (by cases h)⟩⟩⟩) ext_nil (fun q h => (by cases h)) (enF c166_20_k) (fun _ h => (by cases h))

noncomputable def c167_47 : Ct := (167, 1, (23, (zt64 []), [], [qvR 0, qvK (.ofNat 7)], zh144, [(2, [1], []), (1, [1], []), (29, [6], [(sL 1), ((.ofNat 2), []), (sL 20), (sL 21), (sL 22)])]),
  [((23, [], [], [], zh145, [(2, [1], []), (1, [1], []), (29, [6], [((.ofNat 1), [(1, (.ofNat 1))]), ((.ofNat 2), []), (sL 20), (sL 21), ((.ofNat 4), [])])]), 0, 0)])
noncomputable def c167_47_e : List Ct := []
noncomputable def c167_47_pts : List PE := []
set_option maxRecDepth 100000 in
theorem c167_47_k : enCtF c167_47 c167_47_e (pkP (c167_47_pts ++ []) []) (none) (noF, (mWst 9), 0, 512, 23) 3000 = true := by decide +kernel
set_option maxRecDepth 100000 in
theorem c167_47_v : ValidC PPk c167_47 := ct_ok fpk ⟨noF_ok, (mWst_ok 9)⟩ (d := 0) (ext := []) (pts := c167_47_pts) (env := c167_47_e) rfl (fun _ h => (by cases h)) ext_nil (fun q h => (by cases h)) (enF c167_47_k) (fun _ h => (by cases h))

noncomputable def c166_21 : Ct := (166, 3, (21, (zt58 []), [((.negSucc 68), [(0, (.ofNat 1)), (1, (.ofNat 1))])], [qvR 0, qvK (.ofNat 7)], zh141, [(2, [1], []), (1, [1], []), (29, [6], [(sL 1), ((.ofNat 2), []), (sL 18), (sL 19), (sL 20)])]),
  [((22, [qtN 1 1 69, qtN 21 2 70], [((.negSucc 69), [(0, (.ofNat 1)), (1, (.ofNat 1))]), ((.negSucc 1), [(1, (.negSucc 0)), (21, (.ofNat 1))]), ((.negSucc 0), [(1, (.negSucc 0)), (21, (.ofNat 1))]), ((.negSucc 68), [(0, (.ofNat 1)), (1, (.ofNat 1)), (21, (.negSucc 0))]), ((.negSucc 67), [(0, (.ofNat 1)), (1, (.ofNat 1)), (21, (.negSucc 0))]), ((.negSucc 0), [(0, (.negSucc 0)), (1, (.negSucc 0)), (21, (.ofNat 1))])], [qvK (.ofNat 1)], zh146, [(2, [1], []), (1, [1], []), (29, [6], [(sL 21), ((.ofNat 2), []), (sL 18), (sL 19), ((.ofNat 4), [])])]), 0, 0)])
noncomputable def c166_21_e : List Ct := [c162_28, c163_0, c167_47]
noncomputable def c166_21_pts : List PE := []
set_option maxRecDepth 100000 in
theorem c166_21_k : enCtF c166_21 c166_21_e (pkP (c166_21_pts ++ []) []) (none) ((hOr (hWpop 22 6) (hWz 42 6)), noM, 0, 4398050705408, 21) 3000 = true := by decide +kernel
set_option maxRecDepth 100000 in
theorem c166_21_v : ValidC PPk c166_21 := ct_ok fpk ⟨(hOr_ok (hWpop_ok 22 6) (hWz_ok 42 6)), noM_ok⟩ (d := 2) (ext := []) (pts := c166_21_pts) (env := c166_21_e) rfl (List.forall_mem_cons.mpr ⟨⟨c162_28_v, Nat.le_of_ble_eq_true rfl⟩, List.forall_mem_cons.mpr ⟨⟨c163_0_v, Nat.le_of_ble_eq_true rfl⟩, List.forall_mem_cons.mpr ⟨⟨c167_47_v, Nat.le_of_ble_eq_true rfl⟩, fun _ h => (by cases h)⟩⟩⟩) ext_nil (fun q h => (by cases h)) (enF c166_21_k) (fun _ h => (by cases h))

noncomputable def c167_48 : Ct := (167, 1, (23, (zt63 []), [], [qvR 0, qvK (.ofNat 5)], zh144, [(2, [1], []), (1, [1], []), (29, [6], [(sL 1), ((.ofNat 2), []), (sL 20), (sL 21), (sL 22)])]),
  [((23, [], [], [], zh145, [(2, [1], []), (1, [1], []), (29, [6], [((.ofNat 1), [(1, (.ofNat 1))]), ((.ofNat 2), []), (sL 20), (sL 21), ((.ofNat 5), [])])]), 0, 0)])
noncomputable def c167_48_e : List Ct := []
noncomputable def c167_48_pts : List PE := []
set_option maxRecDepth 100000 in
theorem c167_48_k : enCtF c167_48 c167_48_e (pkP (c167_48_pts ++ []) []) (none) (noF, (mWst 9), 0, 512, 23) 3000 = true := by decide +kernel
set_option maxRecDepth 100000 in
theorem c167_48_v : ValidC PPk c167_48 := ct_ok fpk ⟨noF_ok, (mWst_ok 9)⟩ (d := 0) (ext := []) (pts := c167_48_pts) (env := c167_48_e) rfl (fun _ h => (by cases h)) ext_nil (fun q h => (by cases h)) (enF c167_48_k) (fun _ h => (by cases h))
