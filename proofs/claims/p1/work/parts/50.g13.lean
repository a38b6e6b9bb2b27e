/-! ===== contracts, written by wip/vse2/emitgen.py ===== -/
noncomputable def c160_0 : Ct := (160, 5, (30, [(0, (.ofNat 0), (.ofNat 69)), (1, (.ofNat 0), (.ofNat 69)), (2, (.ofNat 0), (.ofNat 8)), (3, (.negSucc 2147483647), (.ofNat 2147483647)), (4, (.negSucc 2147483647), (.ofNat 2147483647)), (5, (.negSucc 2147483647), (.ofNat 2147483647)), (6, (.negSucc 2147483647), (.ofNat 2147483647)), (7, (.negSucc 2147483647), (.ofNat 2147483647)), (8, (.negSucc 2147483647), (.ofNat 2147483647)), (9, (.negSucc 2147483647), (.ofNat 2147483647)), (10, (.ofNat 1), (.ofNat 4)), (11, (.ofNat 0), (.ofNat 60)), (12, (.ofNat 0), (.ofNat 8)), (13, (.ofNat 0), (.ofNat 6)), (14, (.ofNat 0), (.ofNat 8)), (15, (.ofNat 0), (.ofNat 60)), (16, (.ofNat 0), (.ofNat 60)), (17, (.ofNat 0), (.ofNat 10)), (18, (.negSucc 2147483647), (.ofNat 2147483647)), (19, (.ofNat 0), (.ofNat 1)), (20, (.ofNat 0), (.ofNat 1)), (21, (.ofNat 0), (.ofNat 1)), (22, (.ofNat 0), (.ofNat 1))], [((.ofNat 1), [(19, (.negSucc 0)), (20, (.negSucc 0)), (21, (.negSucc 0)), (22, (.negSucc 0))])], [.inr (.inl (some 0))], [zc635,
    zc636,
    zc56,
    zc637,
    zc642,
    zc642,
    zc642,
    .inr (1, .inr (.inl 70)),
    .inr (1, .inr (.inl 8)),
    zc97,
    zc59,
    zc60,
    zc61,
    zc62,
    .inr (1, .inr (.inl 4))], [(1, [1], []), (2, [1], [])]),
  [((34, [(30, (.negSucc 0), (.ofNat 601)), (31, (.ofNat 0), (.ofNat 69)), (32, (.ofNat 0), (.ofNat 68)), (33, (.ofNat 0), (.ofNat 127))], [], [.inl (false, ((.ofNat 0), [(30, (.ofNat 1))]))], [zc717,
    zc718,
    zc56,
    zc637,
    zc642,
    zc642,
    zc642,
    .inr (1, .inr (.inl 70)),
    .inr (1, .inr (.inl 8)),
    zc97,
    zc59,
    zc60,
    zc61,
    zc62,
    .inr (1, .inr (.inl 4))], [(1, [1], []), (2, [1], [])]), 0, 0)])
noncomputable def c160_0_e : List Ct := [c161_0]
noncomputable def c160_0_pts : List PE := []
set_option maxRecDepth 100000 in
theorem c160_0_k : enCtF c160_0 c160_0_e (c160_0_pts ++ []) (none) noH 3000 = true := by decide +kernel
set_option maxRecDepth 100000 in
theorem c160_0_v : ValidC PPk c160_0 := ct_ok fpk noH_ok (d := 4) (ext := []) (pts := c160_0_pts) (env := c160_0_e) rfl (List.forall_mem_cons.mpr ⟨⟨c161_0_v, Nat.le_of_ble_eq_true rfl⟩, fun _ h => (by cases h)⟩) ext_nil (fun q h => (by cases h)) (enF c160_0_k) (fun _ h => (by cases h))

noncomputable def c171_0 : Ct := (171, 1, (33, [(0, (.ofNat 0), (.ofNat 69)), (1, (.ofNat 0), (.ofNat 69)), (2, (.ofNat 0), (.ofNat 8)), (3, (.negSucc 2147483647), (.ofNat 2147483647)), (4, (.negSucc 2147483647), (.ofNat 2147483647)), (5, (.negSucc 2147483647), (.ofNat 2147483647)), (6, (.negSucc 2147483647), (.ofNat 2147483647)), (7, (.negSucc 2147483647), (.ofNat 2147483647)), (8, (.negSucc 2147483647), (.ofNat 2147483647)), (9, (.negSucc 2147483647), (.ofNat 2147483647)), (10, (.ofNat 1), (.ofNat 4)), (11, (.ofNat 0), (.ofNat 60)), (12, (.ofNat 0), (.ofNat 8)), (13, (.ofNat 0), (.ofNat 6)), (14, (.ofNat 0), (.ofNat 8)), (15, (.ofNat 0), (.ofNat 60)), (16, (.ofNat 0), (.ofNat 60)), (17, (.ofNat 0), (.ofNat 10)), (18, (.negSucc 2147483647), (.ofNat 2147483647)), (19, (.ofNat 0), (.ofNat 1)), (20, (.ofNat 0), (.ofNat 1)), (21, (.ofNat 0), (.ofNat 1)), (22, (.ofNat 0), (.ofNat 1))], [((.ofNat 1), [(19, (.negSucc 0)), (20, (.negSucc 0)), (21, (.negSucc 0)), (22, (.negSucc 0))])], [.inr (.inl (some 0))], [zc635,
    zc636,
    zc56,
    zc637,
    zc97,
    zc59,
    zc60,
    .inr (1, .inr (.inl 70)),
    .inr (1, .inr (.inl 8)),
    zc61,
    zc62,
    zc63,
    zc30,
    zc31,
    .inr (1, .inr (.inl 4))], [(1, [1], []), (2, [1], [])]),
  [((35, [(33, (.ofNat 0), (.ofNat 60)), (34, (.ofNat 0), (.ofNat 60))], [], [], [zc635,
    .inr (0, .inl [.inl ((.ofNat 0), [(10, (.ofNat 1))]), .inl ((.ofNat 0), [(33, (.ofNat 1))]), .inl ((.ofNat 0), [(12, (.ofNat 1))]), .inl ((.ofNat 0), [(13, (.ofNat 1))]), .inl ((.ofNat 0), [(14, (.ofNat 1))]), .inl ((.ofNat 0), [(15, (.ofNat 1))]), .inl ((.ofNat 0), [(34, (.ofNat 1))]), .inl ((.ofNat 0), [(17, (.ofNat 1))]), .inr (5, (.negSucc 2147483647), (.ofNat 2147483647)), .inr (1, (.ofNat 0), (.ofNat 3)), .inl ((.ofNat 0), [(18, (.ofNat 1))]), .inr (2, (.negSucc 2147483647), (.ofNat 2147483647)), .inr (1, (.ofNat 1), (.ofNat 1000)), .inr (1, (.ofNat 0), (.ofNat 50)), .inr (23, (.negSucc 2147483647), (.ofNat 2147483647)), .inl ((.ofNat 0), [(19, (.ofNat 1))]), .inr (39, (.negSucc 2147483647), (.ofNat 2147483647)), .inl ((.ofNat 0), [(20, (.ofNat 1))]), .inr (39, (.negSucc 2147483647), (.ofNat 2147483647)), .inl ((.ofNat 0), [(21, (.ofNat 1))]), .inr (39, (.negSucc 2147483647), (.ofNat 2147483647)), .inl ((.ofNat 0), [(22, (.ofNat 1))]), .inr (517, (.negSucc 2147483647), (.ofNat 2147483647)), .inr (12, (.ofNat 0), (.ofNat 60)), .inr (1, (.ofNat 0), (.ofNat 5)), .inr (1, (.ofNat 0), (.ofNat 39)), .inr (1, (.ofNat 0), (.ofNat 40)), .inr (1, (.ofNat 0), (.ofNat 5)), .inr (1, (.ofNat 0), (.ofNat 39)), .inr (1, (.ofNat 0), (.ofNat 40)), .inr (1, (.ofNat 0), (.ofNat 5)), .inr (1, (.ofNat 0), (.ofNat 39)), .inr (1, (.ofNat 0), (.ofNat 40)), .inr (1, (.ofNat 0), (.ofNat 5)), .inr (1, (.ofNat 0), (.ofNat 39)), .inr (1, (.ofNat 0), (.ofNat 40)), .inr (1, (.ofNat 0), (.ofNat 5)), .inr (1, (.ofNat 0), (.ofNat 39)), .inr (1, (.ofNat 0), (.ofNat 40)), .inr (1, (.ofNat 0), (.ofNat 5)), .inr (1, (.ofNat 0), (.ofNat 39)), .inr (1, (.ofNat 0), (.ofNat 40)), .inr (1, (.ofNat 0), (.ofNat 5)), .inr (1, (.ofNat 0), (.ofNat 39)), .inr (1, (.ofNat 0), (.ofNat 40)), .inr (1, (.ofNat 0), (.ofNat 5)), .inr (1, (.ofNat 0), (.ofNat 39)), .inr (1, (.ofNat 0), (.ofNat 40)), .inr (78, (.negSucc 2147483647), (.ofNat 2147483647)), .inr (1, (.ofNat 0), (.ofNat 5)), .inr (4, (.negSucc 2147483647), (.ofNat 2147483647)), .inr (1, (.ofNat 0), (.ofNat 5)), .inr (4, (.negSucc 2147483647), (.ofNat 2147483647)), .inr (1, (.ofNat 0), (.ofNat 5)), .inr (4, (.negSucc 2147483647), (.ofNat 2147483647)), .inr (1, (.ofNat 0), (.ofNat 5)), .inr (4, (.negSucc 2147483647), (.ofNat 2147483647)), .inr (1, (.ofNat 0), (.ofNat 5)), .inr (4, (.negSucc 2147483647), (.ofNat 2147483647)), .inr (1, (.ofNat 0), (.ofNat 5)), .inr (4, (.negSucc 2147483647), (.ofNat 2147483647)), .inr (1, (.ofNat 0), (.ofNat 5)), .inr (4, (.negSucc 2147483647), (.ofNat 2147483647)), .inr (1, (.ofNat 0), (.ofNat 5)), .inr (2, (.negSucc 2147483647), (.ofNat 2147483647)), .inr (60, (.ofNat 0), (.ofNat 127)), .inr (18, (.negSucc 2147483647), (.ofNat 2147483647))]),
    zc56,
    zc637,
    zc97,
    zc59,
    zc60,
    .inr (1, .inr (.inl 70)),
    .inr (1, .inr (.inl 8)),
    zc61,
    zc62,
    zc63,
    zc30,
    zc31,
    .inr (1, .inr (.inl 4))], [(1, [1], []), (2, [1], [])]), 0, 0)])
noncomputable def c171_0_e : List Ct := []
noncomputable def c171_0_pts : List PE := []
set_option maxRecDepth 100000 in
theorem c171_0_k : enCtF c171_0 c171_0_e (c171_0_pts ++ []) (none) (noF, (mSwap 19 1 2 12 0 74), 0, 524288, 33) 3000 = true := by decide +kernel
set_option maxRecDepth 100000 in
theorem c171_0_v : ValidC PPk c171_0 := ct_ok fpk ⟨noF_ok, (mSwap_ok 19 1 2 12 0 74)⟩ (d := 0) (ext := []) (pts := c171_0_pts) (env := c171_0_e) rfl (fun _ h => (by cases h)) ext_nil (fun q h => (by cases h)) (enF c171_0_k) (fun _ h => (by cases h))

noncomputable def c173_0 : Ct := (173, 2, (34, [(0, (.negSucc 2147483647), (.ofNat 2147483647)), (1, (.ofNat 0), (.ofNat 69)), (2, (.ofNat 0), (.ofNat 69)), (3, (.ofNat 0), (.ofNat 8)), (4, (.negSucc 2147483647), (.ofNat 2147483647)), (5, (.negSucc 2147483647), (.ofNat 2147483647)), (6, (.negSucc 2147483647), (.ofNat 2147483647)), (7, (.negSucc 2147483647), (.ofNat 2147483647)), (8, (.negSucc 2147483647), (.ofNat 2147483647)), (9, (.negSucc 2147483647), (.ofNat 2147483647)), (10, (.negSucc 2147483647), (.ofNat 2147483647)), (11, (.ofNat 1), (.ofNat 4)), (12, (.ofNat 0), (.ofNat 60)), (13, (.ofNat 0), (.ofNat 8)), (14, (.ofNat 0), (.ofNat 6)), (15, (.ofNat 0), (.ofNat 8)), (16, (.ofNat 0), (.ofNat 60)), (17, (.ofNat 0), (.ofNat 60)), (18, (.ofNat 0), (.ofNat 10)), (19, (.negSucc 2147483647), (.ofNat 2147483647)), (20, (.ofNat 0), (.ofNat 1)), (21, (.ofNat 0), (.ofNat 1)), (22, (.ofNat 0), (.ofNat 1)), (23, (.ofNat 0), (.ofNat 1))], [((.ofNat 1), [(20, (.negSucc 0)), (21, (.negSucc 0)), (22, (.negSucc 0)), (23, (.negSucc 0))])], [.inr (.inl (some 0)), .inl (false, ((.ofNat 0), [(0, (.ofNat 1))]))], [zc620,
    zc621,
    zc57,
    zc622,
    zc59,
    zc60,
    zc61,
    .inr (1, .inr (.inl 70)),
    .inr (1, .inr (.inl 8)),
    zc62,
    zc63,
    zc30,
    zc31,
    zc32,
    .inr (1, .inr (.inl 4))], [(1, [1], []), (2, [1], [])]),
  [((34, [(0, (.negSucc 2147483647), (.negSucc 0))], [], [.inl (false, ((.ofNat 0), []))], [zc620,
    zc621,
    zc57,
    zc622,
    zc59,
    zc60,
    zc61,
    .inr (1, .inr (.inl 70)),
    .inr (1, .inr (.inl 8)),
    zc62,
    zc63,
    zc30,
    zc31,
    zc32,
    .inr (1, .inr (.inl 4))], [(1, [1], []), (2, [1], [])]), 0, 0),
   ((34, [(0, (.ofNat 1), (.ofNat 2147483647))], [((.ofNat 0), [(0, (.negSucc 0)), (11, (.ofNat 1))])], [.inl (false, ((.ofNat 0), []))], [zc620,
    zc621,
    zc57,
    zc622,
    zc59,
    zc60,
    zc61,
    .inr (1, .inr (.inl 70)),
    .inr (1, .inr (.inl 8)),
    zc62,
    zc63,
    zc30,
    zc31,
    zc32,
    .inr (1, .inr (.inl 4))], [(1, [1], []), (2, [1], [])]), 0, 0),
   ((34, [(0, (.ofNat 0), (.ofNat 3))], [((.ofNat 1), [(0, (.ofNat 1)), (11, (.negSucc 0))])], [.inl (false, ((.ofNat 1), []))], [zc620,
    zc621,
    zc57,
    zc622,
    zc59,
    zc60,
    zc61,
    .inr (1, .inr (.inl 70)),
    .inr (1, .inr (.inl 8)),
    zc62,
    zc63,
    zc30,
    zc31,
    zc32,
    .inr (1, .inr (.inl 4))], [(1, [1], []), (2, [1], [])]), 0, 0)])
noncomputable def c173_0_e : List Ct := [c145_0]
noncomputable def c173_0_pts : List PE := []
set_option maxRecDepth 100000 in
theorem c173_0_k : enCtF c173_0 c173_0_e (c173_0_pts ++ []) (none) noH 3000 = true := by decide +kernel
set_option maxRecDepth 100000 in
theorem c173_0_v : ValidC PPk c173_0 := ct_ok fpk noH_ok (d := 1) (ext := []) (pts := c173_0_pts) (env := c173_0_e) rfl (List.forall_mem_cons.mpr ⟨⟨c145_0_v, Nat.le_of_ble_eq_true rfl⟩, fun _ h => (by cases h)⟩) ext_nil (fun q h => (by cases h)) (enF c173_0_k) (fun _ h => (by cases h))

noncomputable def c174_0 : Ct := (174, 1, (36, [(0, (.ofNat 0), (.ofNat 3)), (1, (.ofNat 0), (.ofNat 11)), (2, (.negSucc 2147483647), (.ofNat 2147483647)), (3, (.ofNat 0), (.ofNat 69)), (4, (.ofNat 0), (.ofNat 69)), (5, (.ofNat 0), (.ofNat 8)), (6, (.negSucc 2147483647), (.ofNat 2147483647)), (7, (.negSucc 2147483647), (.ofNat 2147483647)), (8, (.negSucc 2147483647), (.ofNat 2147483647)), (9, (.negSucc 2147483647), (.ofNat 2147483647)), (10, (.negSucc 2147483647), (.ofNat 2147483647)), (11, (.negSucc 2147483647), (.ofNat 2147483647)), (12, (.negSucc 2147483647), (.ofNat 2147483647)), (13, (.ofNat 1), (.ofNat 4)), (14, (.ofNat 0), (.ofNat 60)), (15, (.ofNat 0), (.ofNat 8)), (16, (.ofNat 0), (.ofNat 6)), (17, (.ofNat 0), (.ofNat 8)), (18, (.ofNat 0), (.ofNat 60)), (19, (.ofNat 0), (.ofNat 60)), (20, (.ofNat 0), (.ofNat 10)), (21, (.negSucc 2147483647), (.ofNat 2147483647)), (22, (.ofNat 0), (.ofNat 1)), (23, (.ofNat 0), (.ofNat 1)), (24, (.ofNat 0), (.ofNat 1)), (25, (.ofNat 0), (.ofNat 1))], [((.ofNat 1), [(22, (.negSucc 0)), (23, (.negSucc 0)), (24, (.negSucc 0)), (25, (.negSucc 0))])], [.inr (.inl (some 0)), .inl (false, ((.ofNat 0), [(0, (.ofNat 1))])), .inl (false, ((.ofNat 0), [(1, (.ofNat 1))])), .inl (false, ((.ofNat 0), [(2, (.ofNat 1))]))], [zc628,
    zc629,
    zc59,
    zc630,
    zc61,
    zc62,
    zc63,
    .inr (1, .inr (.inl 70)),
    .inr (1, .inr (.inl 8)),
    zc30,
    zc31,
    zc32,
    zc33,
    zc34,
    .inr (1, .inr (.inl 4))], [(1, [1], []), (2, [1], [])]),
  [((36, [], [], [], [zc628,
    zc629,
    zc59,
    zc630,
    zc61,
    zc62,
    zc63,
    .inr (1, .inr (.inl 70)),
    .inr (1, .inr (.inl 8)),
    zc30,
    zc31,
    zc32,
    zc33,
    zc34,
    .inr (1, .inr (.inl 4))], [(1, [1], []), (2, [1], [])]), 0, 0)])
noncomputable def c174_0_e : List Ct := []
noncomputable def c174_0_pts : List PE := []
set_option maxRecDepth 100000 in
theorem c174_0_k : enCtF c174_0 c174_0_e (c174_0_pts ++ []) (none) ((hSplit 0 1 ), noM, 0, 1, 36) 3000 = true := by decide +kernel
set_option maxRecDepth 100000 in
theorem c174_0_v : ValidC PPk c174_0 := ct_ok fpk ⟨(hSplit_ok 0 1 ), noM_ok⟩ (d := 0) (ext := []) (pts := c174_0_pts) (env := c174_0_e) rfl (fun _ h => (by cases h)) ext_nil (fun q h => (by cases h)) (enF c174_0_k) (fun _ h => (by cases h))

noncomputable def c172_0 : Ct := (172, 3, (33, [(0, (.ofNat 0), (.ofNat 69)), (1, (.ofNat 0), (.ofNat 69)), (2, (.ofNat 0), (.ofNat 8)), (3, (.negSucc 2147483647), (.ofNat 2147483647)), (4, (.negSucc 2147483647), (.ofNat 2147483647)), (5, (.negSucc 2147483647), (.ofNat 2147483647)), (6, (.negSucc 2147483647), (.ofNat 2147483647)), (7, (.negSucc 2147483647), (.ofNat 2147483647)), (8, (.negSucc 2147483647), (.ofNat 2147483647)), (9, (.negSucc 2147483647), (.ofNat 2147483647)), (10, (.ofNat 1), (.ofNat 4)), (11, (.ofNat 0), (.ofNat 60)), (12, (.ofNat 0), (.ofNat 8)), (13, (.ofNat 0), (.ofNat 6)), (14, (.ofNat 0), (.ofNat 8)), (15, (.ofNat 0), (.ofNat 60)), (16, (.ofNat 0), (.ofNat 60)), (17, (.ofNat 0), (.ofNat 10)), (18, (.negSucc 2147483647), (.ofNat 2147483647)), (19, (.ofNat 0), (.ofNat 1)), (20, (.ofNat 0), (.ofNat 1)), (21, (.ofNat 0), (.ofNat 1)), (22, (.ofNat 0), (.ofNat 1))], [((.ofNat 1), [(19, (.negSucc 0)), (20, (.negSucc 0)), (21, (.negSucc 0)), (22, (.negSucc 0))])], [.inr (.inl (some 0))], [zc635,
    zc636,
    zc56,
    zc637,
    zc97,
    zc59,
    zc60,
    .inr (1, .inr (.inl 70)),
    .inr (1, .inr (.inl 8)),
    zc61,
    zc62,
    zc63,
    zc30,
    zc31,
    .inr (1, .inr (.inl 4))], [(1, [1], []), (2, [1], [])]),
  [((33, [], [], [], [zc635,
    zc636,
    zc56,
    zc637,
    zc97,
    zc59,
    zc60,
    .inr (1, .inr (.inl 70)),
    .inr (1, .inr (.inl 8)),
    zc61,
    zc62,
    zc63,
    zc30,
    zc31,
    .inr (1, .inr (.inl 4))], [(1, [1], []), (2, [1], [])]), 0, 0)])
noncomputable def c172_0_e : List Ct := [c173_0, c174_0]
noncomputable def c172_0_p0 : PE := (2, [1, 0], (33, [(0, (.ofNat 0), (.ofNat 69)), (1, (.ofNat 0), (.ofNat 69)), (2, (.ofNat 0), (.ofNat 8)), (3, (.negSucc 2147483647), (.ofNat 2147483647)), (4, (.negSucc 2147483647), (.ofNat 2147483647)), (5, (.negSucc 2147483647), (.ofNat 2147483647)), (6, (.negSucc 2147483647), (.ofNat 2147483647)), (7, (.negSucc 2147483647), (.ofNat 2147483647)), (8, (.negSucc 2147483647), (.ofNat 2147483647)), (9, (.negSucc 2147483647), (.ofNat 2147483647)), (10, (.ofNat 1), (.ofNat 4)), (11, (.ofNat 0), (.ofNat 60)), (12, (.ofNat 0), (.ofNat 8)), (13, (.ofNat 0), (.ofNat 6)), (14, (.ofNat 0), (.ofNat 8)), (15, (.ofNat 0), (.ofNat 60)), (16, (.ofNat 0), (.ofNat 60)), (17, (.ofNat 0), (.ofNat 10)), (18, (.negSucc 2147483647), (.ofNat 2147483647)), (19, (.ofNat 0), (.ofNat 1)), (20, (.ofNat 0), (.ofNat 1)), (21, (.ofNat 0), (.ofNat 1)), (22, (.ofNat 0), (.ofNat 1))], [((.ofNat 1), [(19, (.negSucc 0)), (20, (.negSucc 0)), (21, (.negSucc 0)), (22, (.negSucc 0))])], [.inl (false, ((.ofNat 0), [])), .inr (.inl (some 0))], [zc635,
    zc636,
    zc56,
    zc637,
    zc97,
    zc59,
    zc60,
    .inr (1, .inr (.inl 70)),
    .inr (1, .inr (.inl 8)),
    zc61,
    zc62,
    zc63,
    zc30,
    zc31,
    .inr (1, .inr (.inl 4))], [(1, [1], []), (2, [1], [])]), symsL 33 0, some ((.ofNat 17), []), 0, 0)
noncomputable def c172_0_p1 : PE := (2, [1, 0, 2, 3], (34, [(0, (.ofNat 0), (.ofNat 69)), (1, (.ofNat 0), (.ofNat 69)), (2, (.ofNat 0), (.ofNat 8)), (3, (.negSucc 2147483647), (.ofNat 2147483647)), (4, (.negSucc 2147483647), (.ofNat 2147483647)), (5, (.negSucc 2147483647), (.ofNat 2147483647)), (6, (.negSucc 2147483647), (.ofNat 2147483647)), (7, (.negSucc 2147483647), (.ofNat 2147483647)), (8, (.negSucc 2147483647), (.ofNat 2147483647)), (9, (.negSucc 2147483647), (.ofNat 2147483647)), (10, (.ofNat 1), (.ofNat 4)), (11, (.ofNat 0), (.ofNat 60)), (12, (.ofNat 0), (.ofNat 8)), (13, (.ofNat 0), (.ofNat 6)), (14, (.ofNat 1), (.ofNat 8)), (15, (.ofNat 0), (.ofNat 60)), (16, (.ofNat 0), (.ofNat 60)), (17, (.ofNat 0), (.ofNat 10)), (18, (.negSucc 2147483647), (.ofNat 2147483647)), (19, (.ofNat 0), (.ofNat 1)), (20, (.ofNat 0), (.ofNat 1)), (21, (.ofNat 0), (.ofNat 1)), (22, (.ofNat 0), (.ofNat 1)), (33, (.ofNat 0), (.ofNat 5))], [((.ofNat 1), [(19, (.negSucc 0)), (20, (.negSucc 0)), (21, (.negSucc 0)), (22, (.negSucc 0))])], [.inl (false, ((.ofNat 1), [])), .inr (.inl (some 0)), .inl (false, ((.ofNat 792), [])), .inl (false, ((.ofNat 0), [(33, (.ofNat 1))]))], [zc635,
    zc636,
    zc56,
    zc637,
    zc97,
    zc59,
    zc60,
    .inr (1, .inr (.inl 70)),
    .inr (1, .inr (.inl 8)),
    zc61,
    zc62,
    zc63,
    zc30,
    zc31,
    .inr (1, .inr (.inl 4))], [(1, [1], []), (2, [1], [])]), symsL 33 0, some ((.ofNat 16), []), 0, 0)
noncomputable def c172_0_p2 : PE := (2, [1, 0, 2, 3], (34, [(0, (.ofNat 0), (.ofNat 69)), (1, (.ofNat 0), (.ofNat 69)), (2, (.ofNat 0), (.ofNat 8)), (3, (.negSucc 2147483647), (.ofNat 2147483647)), (4, (.negSucc 2147483647), (.ofNat 2147483647)), (5, (.negSucc 2147483647), (.ofNat 2147483647)), (6, (.negSucc 2147483647), (.ofNat 2147483647)), (7, (.negSucc 2147483647), (.ofNat 2147483647)), (8, (.negSucc 2147483647), (.ofNat 2147483647)), (9, (.negSucc 2147483647), (.ofNat 2147483647)), (10, (.ofNat 1), (.ofNat 4)), (11, (.ofNat 0), (.ofNat 60)), (12, (.ofNat 0), (.ofNat 8)), (13, (.ofNat 0), (.ofNat 6)), (14, (.ofNat 2), (.ofNat 8)), (15, (.ofNat 0), (.ofNat 60)), (16, (.ofNat 0), (.ofNat 60)), (17, (.ofNat 0), (.ofNat 10)), (18, (.negSucc 2147483647), (.ofNat 2147483647)), (19, (.ofNat 0), (.ofNat 1)), (20, (.ofNat 0), (.ofNat 1)), (21, (.ofNat 0), (.ofNat 1)), (22, (.ofNat 0), (.ofNat 1)), (33, (.ofNat 0), (.ofNat 5))], [((.ofNat 1), [(19, (.negSucc 0)), (20, (.negSucc 0)), (21, (.negSucc 0)), (22, (.negSucc 0))])], [.inl (false, ((.ofNat 2), [])), .inr (.inl (some 0)), .inl (false, ((.ofNat 797), [])), .inl (false, ((.ofNat 0), [(33, (.ofNat 1))]))], [zc635,
    zc636,
    zc56,
    zc637,
    zc97,
    zc59,
    zc60,
    .inr (1, .inr (.inl 70)),
    .inr (1, .inr (.inl 8)),
    zc61,
    zc62,
    zc63,
    zc30,
    zc31,
    .inr (1, .inr (.inl 4))], [(1, [1], []), (2, [1], [])]), symsL 33 0, some ((.ofNat 15), []), 0, 0)
noncomputable def c172_0_p3 : PE := (2, [1, 0, 2, 3], (34, [(0, (.ofNat 0), (.ofNat 69)), (1, (.ofNat 0), (.ofNat 69)), (2, (.ofNat 0), (.ofNat 8)), (3, (.negSucc 2147483647), (.ofNat 2147483647)), (4, (.negSucc 2147483647), (.ofNat 2147483647)), (5, (.negSucc 2147483647), (.ofNat 2147483647)), (6, (.negSucc 2147483647), (.ofNat 2147483647)), (7, (.negSucc 2147483647), (.ofNat 2147483647)), (8, (.negSucc 2147483647), (.ofNat 2147483647)), (9, (.negSucc 2147483647), (.ofNat 2147483647)), (10, (.ofNat 1), (.ofNat 4)), (11, (.ofNat 0), (.ofNat 60)), (12, (.ofNat 0), (.ofNat 8)), (13, (.ofNat 0), (.ofNat 6)), (14, (.ofNat 3), (.ofNat 8)), (15, (.ofNat 0), (.ofNat 60)), (16, (.ofNat 0), (.ofNat 60)), (17, (.ofNat 0), (.ofNat 10)), (18, (.negSucc 2147483647), (.ofNat 2147483647)), (19, (.ofNat 0), (.ofNat 1)), (20, (.ofNat 0), (.ofNat 1)), (21, (.ofNat 0), (.ofNat 1)), (22, (.ofNat 0), (.ofNat 1)), (33, (.ofNat 0), (.ofNat 5))], [((.ofNat 1), [(19, (.negSucc 0)), (20, (.negSucc 0)), (21, (.negSucc 0)), (22, (.negSucc 0))])], [.inl (false, ((.ofNat 3), [])), .inr (.inl (some 0)), .inl (false, ((.ofNat 802), [])), .inl (false, ((.ofNat 0), [(33, (.ofNat 1))]))], [zc635,
    zc636,
    zc56,
    zc637,
    zc97,
    zc59,
    zc60,
    .inr (1, .inr (.inl 70)),
    .inr (1, .inr (.inl 8)),
    zc61,
    zc62,
    zc63,
    zc30,
    zc31,
    .inr (1, .inr (.inl 4))], [(1, [1], []), (2, [1], [])]), symsL 33 0, some ((.ofNat 14), []), 0, 0)
noncomputable def c172_0_p4 : PE := (2, [1, 0, 2, 3], (34, [(0, (.ofNat 0), (.ofNat 69)), (1, (.ofNat 0), (.ofNat 69)), (2, (.ofNat 0), (.ofNat 8)), (3, (.negSucc 2147483647), (.ofNat 2147483647)), (4, (.negSucc 2147483647), (.ofNat 2147483647)), (5, (.negSucc 2147483647), (.ofNat 2147483647)), (6, (.negSucc 2147483647), (.ofNat 2147483647)), (7, (.negSucc 2147483647), (.ofNat 2147483647)), (8, (.negSucc 2147483647), (.ofNat 2147483647)), (9, (.negSucc 2147483647), (.ofNat 2147483647)), (10, (.ofNat 1), (.ofNat 4)), (11, (.ofNat 0), (.ofNat 60)), (12, (.ofNat 0), (.ofNat 8)), (13, (.ofNat 0), (.ofNat 6)), (14, (.ofNat 4), (.ofNat 8)), (15, (.ofNat 0), (.ofNat 60)), (16, (.ofNat 0), (.ofNat 60)), (17, (.ofNat 0), (.ofNat 10)), (18, (.negSucc 2147483647), (.ofNat 2147483647)), (19, (.ofNat 0), (.ofNat 1)), (20, (.ofNat 0), (.ofNat 1)), (21, (.ofNat 0), (.ofNat 1)), (22, (.ofNat 0), (.ofNat 1)), (33, (.ofNat 0), (.ofNat 5))], [((.ofNat 1), [(19, (.negSucc 0)), (20, (.negSucc 0)), (21, (.negSucc 0)), (22, (.negSucc 0))])], [.inl (false, ((.ofNat 4), [])), .inr (.inl (some 0)), .inl (false, ((.ofNat 807), [])), .inl (false, ((.ofNat 0), [(33, (.ofNat 1))]))], [zc635,
    zc636,
    zc56,
    zc637,
    zc97,
    zc59,
    zc60,
    .inr (1, .inr (.inl 70)),
    .inr (1, .inr (.inl 8)),
    zc61,
    zc62,
    zc63,
    zc30,
    zc31,
    .inr (1, .inr (.inl 4))], [(1, [1], []), (2, [1], [])]), symsL 33 0, some ((.ofNat 13), []), 0, 0)
noncomputable def c172_0_p5 : PE := (2, [1, 0, 2, 3], (34, [(0, (.ofNat 0), (.ofNat 69)), (1, (.ofNat 0), (.ofNat 69)), (2, (.ofNat 0), (.ofNat 8)), (3, (.negSucc 2147483647), (.ofNat 2147483647)), (4, (.negSucc 2147483647), (.ofNat 2147483647)), (5, (.negSucc 2147483647), (.ofNat 2147483647)), (6, (.negSucc 2147483647), (.ofNat 2147483647)), (7, (.negSucc 2147483647), (.ofNat 2147483647)), (8, (.negSucc 2147483647), (.ofNat 2147483647)), (9, (.negSucc 2147483647), (.ofNat 2147483647)), (10, (.ofNat 1), (.ofNat 4)), (11, (.ofNat 0), (.ofNat 60)), (12, (.ofNat 0), (.ofNat 8)), (13, (.ofNat 0), (.ofNat 6)), (14, (.ofNat 5), (.ofNat 8)), (15, (.ofNat 0), (.ofNat 60)), (16, (.ofNat 0), (.ofNat 60)), (17, (.ofNat 0), (.ofNat 10)), (18, (.negSucc 2147483647), (.ofNat 2147483647)), (19, (.ofNat 0), (.ofNat 1)), (20, (.ofNat 0), (.ofNat 1)), (21, (.ofNat 0), (.ofNat 1)), (22, (.ofNat 0), (.ofNat 1)), (33, (.ofNat 0), (.ofNat 5))], [((.ofNat 1), [(19, (.negSucc 0)), (20, (.negSucc 0)), (21, (.negSucc 0)), (22, (.negSucc 0))])], [.inl (false, ((.ofNat 5), [])), .inr (.inl (some 0)), .inl (false, ((.ofNat 812), [])), .inl (false, ((.ofNat 0), [(33, (.ofNat 1))]))], [zc635,
    zc636,
    zc56,
    zc637,
    zc97,
    zc59,
    zc60,
    .inr (1, .inr (.inl 70)),
    .inr (1, .inr (.inl 8)),
    zc61,
    zc62,
    zc63,
    zc30,
    zc31,
    .inr (1, .inr (.inl 4))], [(1, [1], []), (2, [1], [])]), symsL 33 0, some ((.ofNat 12), []), 0, 0)
noncomputable def c172_0_p6 : PE := (2, [1, 0, 2, 3], (34, [(0, (.ofNat 0), (.ofNat 69)), (1, (.ofNat 0), (.ofNat 69)), (2, (.ofNat 0), (.ofNat 8)), (3, (.negSucc 2147483647), (.ofNat 2147483647)), (4, (.negSucc 2147483647), (.ofNat 2147483647)), (5, (.negSucc 2147483647), (.ofNat 2147483647)), (6, (.negSucc 2147483647), (.ofNat 2147483647)), (7, (.negSucc 2147483647), (.ofNat 2147483647)), (8, (.negSucc 2147483647), (.ofNat 2147483647)), (9, (.negSucc 2147483647), (.ofNat 2147483647)), (10, (.ofNat 1), (.ofNat 4)), (11, (.ofNat 0), (.ofNat 60)), (12, (.ofNat 0), (.ofNat 8)), (13, (.ofNat 0), (.ofNat 6)), (14, (.ofNat 6), (.ofNat 8)), (15, (.ofNat 0), (.ofNat 60)), (16, (.ofNat 0), (.ofNat 60)), (17, (.ofNat 0), (.ofNat 10)), (18, (.negSucc 2147483647), (.ofNat 2147483647)), (19, (.ofNat 0), (.ofNat 1)), (20, (.ofNat 0), (.ofNat 1)), (21, (.ofNat 0), (.ofNat 1)), (22, (.ofNat 0), (.ofNat 1)), (33, (.ofNat 0), (.ofNat 5))], [((.ofNat 1), [(19, (.negSucc 0)), (20, (.negSucc 0)), (21, (.negSucc 0)), (22, (.negSucc 0))])], [.inl (false, ((.ofNat 6), [])), .inr (.inl (some 0)), .inl (false, ((.ofNat 817), [])), .inl (false, ((.ofNat 0), [(33, (.ofNat 1))]))], [zc635,
    zc636,
    zc56,
    zc637,
    zc97,
    zc59,
    zc60,
    .inr (1, .inr (.inl 70)),
    .inr (1, .inr (.inl 8)),
    zc61,
    zc62,
    zc63,
    zc30,
    zc31,
    .inr (1, .inr (.inl 4))], [(1, [1], []), (2, [1], [])]), symsL 33 0, some ((.ofNat 11), []), 0, 0)
noncomputable def c172_0_p7 : PE := (2, [1, 0, 2, 3], (34, [(0, (.ofNat 0), (.ofNat 69)), (1, (.ofNat 0), (.ofNat 69)), (2, (.ofNat 0), (.ofNat 8)), (3, (.negSucc 2147483647), (.ofNat 2147483647)), (4, (.negSucc 2147483647), (.ofNat 2147483647)), (5, (.negSucc 2147483647), (.ofNat 2147483647)), (6, (.negSucc 2147483647), (.ofNat 2147483647)), (7, (.negSucc 2147483647), (.ofNat 2147483647)), (8, (.negSucc 2147483647), (.ofNat 2147483647)), (9, (.negSucc 2147483647), (.ofNat 2147483647)), (10, (.ofNat 1), (.ofNat 4)), (11, (.ofNat 0), (.ofNat 60)), (12, (.ofNat 0), (.ofNat 8)), (13, (.ofNat 0), (.ofNat 6)), (14, (.ofNat 7), (.ofNat 8)), (15, (.ofNat 0), (.ofNat 60)), (16, (.ofNat 0), (.ofNat 60)), (17, (.ofNat 0), (.ofNat 10)), (18, (.negSucc 2147483647), (.ofNat 2147483647)), (19, (.ofNat 0), (.ofNat 1)), (20, (.ofNat 0), (.ofNat 1)), (21, (.ofNat 0), (.ofNat 1)), (22, (.ofNat 0), (.ofNat 1)), (33, (.ofNat 0), (.ofNat 5))], [((.ofNat 1), [(19, (.negSucc 0)), (20, (.negSucc 0)), (21, (.negSucc 0)), (22, (.negSucc 0))])], [.inl (false, ((.ofNat 7), [])), .inr (.inl (some 0)), .inl (false, ((.ofNat 822), [])), .inl (false, ((.ofNat 0), [(33, (.ofNat 1))]))], [zc635,
    zc636,
    zc56,
    zc637,
    zc97,
    zc59,
    zc60,
    .inr (1, .inr (.inl 70)),
    .inr (1, .inr (.inl 8)),
    zc61,
    zc62,
    zc63,
    zc30,
    zc31,
    .inr (1, .inr (.inl 4))], [(1, [1], []), (2, [1], [])]), symsL 33 0, some ((.ofNat 10), []), 0, 0)
noncomputable def c172_0_p8 : PE := (2, [1, 0, 2, 3], (34, [(0, (.ofNat 0), (.ofNat 69)), (1, (.ofNat 0), (.ofNat 69)), (2, (.ofNat 0), (.ofNat 8)), (3, (.negSucc 2147483647), (.ofNat 2147483647)), (4, (.negSucc 2147483647), (.ofNat 2147483647)), (5, (.negSucc 2147483647), (.ofNat 2147483647)), (6, (.negSucc 2147483647), (.ofNat 2147483647)), (7, (.negSucc 2147483647), (.ofNat 2147483647)), (8, (.negSucc 2147483647), (.ofNat 2147483647)), (9, (.negSucc 2147483647), (.ofNat 2147483647)), (10, (.ofNat 1), (.ofNat 4)), (11, (.ofNat 0), (.ofNat 60)), (12, (.ofNat 0), (.ofNat 8)), (13, (.ofNat 0), (.ofNat 6)), (14, (.ofNat 8), (.ofNat 8)), (15, (.ofNat 0), (.ofNat 60)), (16, (.ofNat 0), (.ofNat 60)), (17, (.ofNat 0), (.ofNat 10)), (18, (.negSucc 2147483647), (.ofNat 2147483647)), (19, (.ofNat 0), (.ofNat 1)), (20, (.ofNat 0), (.ofNat 1)), (21, (.ofNat 0), (.ofNat 1)), (22, (.ofNat 0), (.ofNat 1)), (33, (.ofNat 0), (.ofNat 5))], [((.ofNat 1), [(19, (.negSucc 0)), (20, (.negSucc 0)), (21, (.negSucc 0)), (22, (.negSucc 0))])], [.inl (false, ((.ofNat 8), [])), .inr (.inl (some 0)), .inl (false, ((.ofNat 827), [])), .inl (false, ((.ofNat 0), [(33, (.ofNat 1))]))], [zc635,
    zc636,
    zc56,
    zc637,
    zc97,
    zc59,
    zc60,
    .inr (1, .inr (.inl 70)),
    .inr (1, .inr (.inl 8)),
    zc61,
    zc62,
    zc63,
    zc30,
    zc31,
    .inr (1, .inr (.inl 4))], [(1, [1], []), (2, [1], [])]), symsL 33 0, some ((.ofNat 9), []), 0, 0)
noncomputable def c172_0_pts : List PE := [c172_0_p0, c172_0_p1, c172_0_p2, c172_0_p3, c172_0_p4, c172_0_p5, c172_0_p6, c172_0_p7, c172_0_p8]
set_option maxRecDepth 100000 in
theorem c172_0_k : enCtF c172_0 c172_0_e (c172_0_pts ++ []) (none) ((hOr (atPc 47 (fHarm 1)) (hOr (atPc 65 (fHarm 1)) (hOr (atPc 96 (fHarm 1)) (hSplit 178 3 )))), noM, 4, 383123885216472214589586836015739847062651258997309440, 33) 3000 = true := by decide +kernel
set_option maxRecDepth 100000 in
theorem c172_0_k0 : ptCtF c172_0 c172_0_e (c172_0_pts ++ []) ((hOr (atPc 47 (fHarm 1)) (hOr (atPc 65 (fHarm 1)) (hOr (atPc 96 (fHarm 1)) (hSplit 178 3 )))), noM, 4, 383123885216472214589586836015739847062651258997309440, 33) 3000 c172_0_p0 = true := by decide +kernel
set_option maxRecDepth 100000 in
theorem c172_0_k1 : ptCtF c172_0 c172_0_e (c172_0_pts ++ []) ((hOr (atPc 47 (fHarm 1)) (hOr (atPc 65 (fHarm 1)) (hOr (atPc 96 (fHarm 1)) (hSplit 178 3 )))), noM, 4, 383123885216472214589586836015739847062651258997309440, 33) 3000 c172_0_p1 = true := by decide +kernel
set_option maxRecDepth 100000 in
theorem c172_0_k2 : ptCtF c172_0 c172_0_e (c172_0_pts ++ []) ((hOr (atPc 47 (fHarm 1)) (hOr (atPc 65 (fHarm 1)) (hOr (atPc 96 (fHarm 1)) (hSplit 178 3 )))), noM, 4, 383123885216472214589586836015739847062651258997309440, 33) 3000 c172_0_p2 = true := by decide +kernel
set_option maxRecDepth 100000 in
theorem c172_0_k3 : ptCtF c172_0 c172_0_e (c172_0_pts ++ []) ((hOr (atPc 47 (fHarm 1)) (hOr (atPc 65 (fHarm 1)) (hOr (atPc 96 (fHarm 1)) (hSplit 178 3 )))), noM, 4, 383123885216472214589586836015739847062651258997309440, 33) 3000 c172_0_p3 = true := by decide +kernel
set_option maxRecDepth 100000 in
theorem c172_0_k4 : ptCtF c172_0 c172_0_e (c172_0_pts ++ []) ((hOr (atPc 47 (fHarm 1)) (hOr (atPc 65 (fHarm 1)) (hOr (atPc 96 (fHarm 1)) (hSplit 178 3 )))), noM, 4, 383123885216472214589586836015739847062651258997309440, 33) 3000 c172_0_p4 = true := by decide +kernel
set_option maxRecDepth 100000 in
theorem c172_0_k5 : ptCtF c172_0 c172_0_e (c172_0_pts ++ []) ((hOr (atPc 47 (fHarm 1)) (hOr (atPc 65 (fHarm 1)) (hOr (atPc 96 (fHarm 1)) (hSplit 178 3 )))), noM, 4, 383123885216472214589586836015739847062651258997309440, 33) 3000 c172_0_p5 = true := by decide +kernel
set_option maxRecDepth 100000 in
theorem c172_0_k6 : ptCtF c172_0 c172_0_e (c172_0_pts ++ []) ((hOr (atPc 47 (fHarm 1)) (hOr (atPc 65 (fHarm 1)) (hOr (atPc 96 (fHarm 1)) (hSplit 178 3 )))), noM, 4, 383123885216472214589586836015739847062651258997309440, 33) 3000 c172_0_p6 = true := by decide +kernel
set_option maxRecDepth 100000 in
theorem c172_0_k7 : ptCtF c172_0 c172_0_e (c172_0_pts ++ []) ((hOr (atPc 47 (fHarm 1)) (hOr (atPc 65 (fHarm 1)) (hOr (atPc 96 (fHarm 1)) (hSplit 178 3 )))), noM, 4, 383123885216472214589586836015739847062651258997309440, 33) 3000 c172_0_p7 = true := by decide +kernel
set_option maxRecDepth 100000 in
theorem c172_0_k8 : ptCtF c172_0 c172_0_e (c172_0_pts ++ []) ((hOr (atPc 47 (fHarm 1)) (hOr (atPc 65 (fHarm 1)) (hOr (atPc 96 (fHarm 1)) (hSplit 178 3 )))), noM, 4, 383123885216472214589586836015739847062651258997309440, 33) 3000 c172_0_p8 = true := by decide +kernel
set_option maxRecDepth 100000 in
theorem c172_0_v : ValidC PPk c172_0 := ct_ok fpk ⟨(hOr_ok (atPc_ok (fHarm_ok 1)) (hOr_ok (atPc_ok (fHarm_ok 1)) (hOr_ok (atPc_ok (fHarm_ok 1)) (hSplit_ok 178 3 )))), noM_ok⟩ (d := 2) (ext := []) (pts := c172_0_pts) (env := c172_0_e) rfl (List.forall_mem_cons.mpr ⟨⟨c173_0_v, Nat.le_of_ble_eq_true rfl⟩, List.forall_mem_cons.mpr ⟨⟨c174_0_v, Nat.le_of_ble_eq_true rfl⟩, fun _ h => (by cases h)⟩⟩) ext_nil (fun q h => (by cases h)) (enF c172_0_k) (List.forall_mem_cons.mpr ⟨ptF c172_0_k0, List.forall_mem_cons.mpr ⟨ptF c172_0_k1, List.forall_mem_cons.mpr ⟨ptF c172_0_k2, List.forall_mem_cons.mpr ⟨ptF c172_0_k3, List.forall_mem_cons.mpr ⟨ptF c172_0_k4, List.forall_mem_cons.mpr ⟨ptF c172_0_k5, List.forall_mem_cons.mpr ⟨ptF c172_0_k6, List.forall_mem_cons.mpr ⟨ptF c172_0_k7, List.forall_mem_cons.mpr ⟨ptF c172_0_k8, fun _ h => (by cases h)⟩⟩⟩⟩⟩⟩⟩⟩⟩)

noncomputable def c175_0 : Ct := (175, 1, (33, [(0, (.ofNat 0), (.ofNat 69)), (1, (.ofNat 0), (.ofNat 69)), (2, (.ofNat 0), (.ofNat 8)), (3, (.negSucc 2147483647), (.ofNat 2147483647)), (4, (.negSucc 2147483647), (.ofNat 2147483647)), (5, (.negSucc 2147483647), (.ofNat 2147483647)), (6, (.negSucc 2147483647), (.ofNat 2147483647)), (7, (.negSucc 2147483647), (.ofNat 2147483647)), (8, (.negSucc 2147483647), (.ofNat 2147483647)), (9, (.negSucc 2147483647), (.ofNat 2147483647)), (10, (.ofNat 1), (.ofNat 4)), (11, (.ofNat 0), (.ofNat 60)), (12, (.ofNat 0), (.ofNat 8)), (13, (.ofNat 0), (.ofNat 6)), (14, (.ofNat 0), (.ofNat 8)), (15, (.ofNat 0), (.ofNat 60)), (16, (.ofNat 0), (.ofNat 60)), (17, (.ofNat 0), (.ofNat 10)), (18, (.negSucc 2147483647), (.ofNat 2147483647)), (19, (.ofNat 0), (.ofNat 1)), (20, (.ofNat 0), (.ofNat 1)), (21, (.ofNat 0), (.ofNat 1)), (22, (.ofNat 0), (.ofNat 1))], [((.ofNat 1), [(19, (.negSucc 0)), (20, (.negSucc 0)), (21, (.negSucc 0)), (22, (.negSucc 0))])], [.inr (.inl (some 0)), .inl (false, ((.ofNat 0), [])), .inl (false, ((.ofNat 12), []))], [zc635,
    zc636,
    zc56,
    zc637,
    zc97,
    zc59,
    zc60,
    .inr (1, .inr (.inl 70)),
    .inr (1, .inr (.inl 8)),
    zc61,
    zc62,
    zc63,
    zc30,
    zc31,
    .inr (1, .inr (.inl 4))], [(1, [1], []), (2, [1], [])]),
  [((33, [], [], [.inl (false, ((.ofNat 0), [(19, (.ofNat 1))]))], [zc635,
    zc636,
    zc56,
    zc637,
    zc97,
    zc59,
    zc60,
    .inr (1, .inr (.inl 70)),
    .inr (1, .inr (.inl 8)),
    zc61,
    zc62,
    zc63,
    zc30,
    zc31,
    .inr (1, .inr (.inl 4))], [(1, [1], []), (2, [1], [])]), 0, 0)])
noncomputable def c175_0_e : List Ct := []
noncomputable def c175_0_pts : List PE := []
set_option maxRecDepth 100000 in
theorem c175_0_k : enCtF c175_0 c175_0_e (c175_0_pts ++ []) (none) noH 3000 = true := by decide +kernel
set_option maxRecDepth 100000 in
theorem c175_0_v : ValidC PPk c175_0 := ct_ok fpk noH_ok (d := 0) (ext := []) (pts := c175_0_pts) (env := c175_0_e) rfl (fun _ h => (by cases h)) ext_nil (fun q h => (by cases h)) (enF c175_0_k) (fun _ h => (by cases h))

noncomputable def c179_0 : Ct := (179, 1, (21, [(0, (.ofNat 0), (.ofNat 69)), (1, (.ofNat 0), (.ofNat 69)), (2, (.ofNat 0), (.ofNat 8)), (3, (.negSucc 2147483647), (.ofNat 2147483647)), (4, (.negSucc 2147483647), (.ofNat 2147483647)), (5, (.negSucc 2147483647), (.ofNat 2147483647)), (6, (.negSucc 2147483647), (.ofNat 2147483647)), (7, (.negSucc 2147483647), (.ofNat 2147483647)), (8, (.negSucc 2147483647), (.ofNat 2147483647)), (9, (.negSucc 2147483647), (.ofNat 2147483647))], [], [.inr (.inl (some 0))], [zc635,
    zc43,
    zc44,
    zc644,
    zc46,
    zc47,
    zc48,
    .inr (1, .inr (.inl 70)),
    .inr (1, .inr (.inl 8)),
    zc49,
    zc95,
    zc51,
    zc52,
    zc53,
    .inr (1, .inr (.inl 4))], [(1, [1], []), (2, [1], [])]),
  [((22, [(21, (.negSucc 9223372036854775807), (.ofNat 9223372036854775807))], [], [.inl (true, ((.ofNat 0), [(21, (.ofNat 1))]))], [zc635,
    zc43,
    zc44,
    zc644,
    zc46,
    zc47,
    zc48,
    .inr (1, .inr (.inl 70)),
    .inr (1, .inr (.inl 8)),
    zc49,
    zc95,
    zc51,
    zc52,
    zc53,
    .inr (1, .inr (.inl 4))], [(1, [1], []), (2, [1], [])]), 0, 0)])
noncomputable def c179_0_e : List Ct := []
noncomputable def c179_0_pts : List PE := []
set_option maxRecDepth 100000 in
theorem c179_0_k : enCtF c179_0 c179_0_e (c179_0_pts ++ []) (some (2, 0, 9)) noH 3000 = true := by decide +kernel
set_option maxRecDepth 100000 in
theorem c179_0_v : ValidC PPk c179_0 := ct_ok fpk noH_ok (d := 0) (ext := []) (pts := c179_0_pts) (env := c179_0_e) rfl (fun _ h => (by cases h)) ext_nil (fun q h => (by cases h; exact Nat.le_of_ble_eq_true rfl)) (enF c179_0_k) (fun _ h => (by cases h))

noncomputable def c177_0 : Ct := (177, 1, (34, [(0, (.ofNat 0), (.ofNat 5)), (1, (.ofNat 0), (.ofNat 69)), (2, (.ofNat 0), (.ofNat 69)), (3, (.ofNat 0), (.ofNat 8)), (4, (.negSucc 2147483647), (.ofNat 2147483647)), (5, (.negSucc 2147483647), (.ofNat 2147483647)), (6, (.negSucc 2147483647), (.ofNat 2147483647)), (7, (.negSucc 2147483647), (.ofNat 2147483647)), (8, (.negSucc 2147483647), (.ofNat 2147483647)), (9, (.negSucc 2147483647), (.ofNat 2147483647)), (10, (.negSucc 2147483647), (.ofNat 2147483647)), (11, (.ofNat 1), (.ofNat 4)), (12, (.ofNat 0), (.ofNat 60)), (13, (.ofNat 0), (.ofNat 8)), (14, (.ofNat 0), (.ofNat 6)), (15, (.ofNat 0), (.ofNat 8)), (16, (.ofNat 0), (.ofNat 60)), (17, (.ofNat 0), (.ofNat 60)), (18, (.ofNat 0), (.ofNat 10)), (19, (.negSucc 2147483647), (.ofNat 2147483647)), (20, (.ofNat 0), (.ofNat 1)), (21, (.ofNat 0), (.ofNat 1)), (22, (.ofNat 0), (.ofNat 1)), (23, (.ofNat 0), (.ofNat 1))], [((.ofNat 1), [(20, (.negSucc 0)), (21, (.negSucc 0)), (22, (.negSucc 0)), (23, (.negSucc 0))])], [.inr (.inl (some 0)), .inl (false, ((.ofNat 0), [(0, (.ofNat 1))]))], [zc620,
    zc621,
    zc57,
    zc622,
    zc59,
    zc60,
    zc61,
    .inr (1, .inr (.inl 70)),
    .inr (1, .inr (.inl 8)),
    zc62,
    zc63,
    zc30,
    zc31,
    zc32,
    .inr (1, .inr (.inl 4))], [(1, [1], []), (2, [1], [])]),
  [((35, [(34, (.negSucc 2147483647), (.ofNat 2147483647))], [], [.inl (false, ((.ofNat 0), [(34, (.ofNat 1))]))], [zc620,
    zc621,
    zc57,
    zc622,
    zc59,
    zc60,
    zc61,
    .inr (1, .inr (.inl 70)),
    .inr (1, .inr (.inl 8)),
    zc62,
    zc63,
    zc30,
    zc31,
    zc32,
    .inr (1, .inr (.inl 4))], [(1, [1], []), (2, [1], [])]), 0, 0)])
noncomputable def c177_0_e : List Ct := []
noncomputable def c177_0_pts : List PE := []
set_option maxRecDepth 100000 in
theorem c177_0_k : enCtF c177_0 c177_0_e (c177_0_pts ++ []) (none) noH 3000 = true := by decide +kernel
set_option maxRecDepth 100000 in
theorem c177_0_v : ValidC PPk c177_0 := ct_ok fpk noH_ok (d := 0) (ext := []) (pts := c177_0_pts) (env := c177_0_e) rfl (fun _ h => (by cases h)) ext_nil (fun q h => (by cases h)) (enF c177_0_k) (fun _ h => (by cases h))

noncomputable def c178_0 : Ct := (178, 1, (22, [(0, (.negSucc 9223372036854775807), (.ofNat 9223372036854775807)), (1, (.ofNat 0), (.ofNat 69)), (2, (.ofNat 0), (.ofNat 69)), (3, (.ofNat 0), (.ofNat 7)), (4, (.negSucc 2147483647), (.ofNat 2147483647)), (5, (.negSucc 2147483647), (.ofNat 2147483647)), (6, (.negSucc 2147483647), (.ofNat 2147483647)), (7, (.negSucc 2147483647), (.ofNat 2147483647)), (8, (.negSucc 2147483647), (.ofNat 2147483647)), (9, (.negSucc 2147483647), (.ofNat 2147483647)), (10, (.negSucc 2147483647), (.ofNat 2147483647))], [], [.inr (.inl (some 0)), .inl (true, ((.ofNat 0), [(0, (.ofNat 1))]))], [zc620,
    zc44,
    zc118,
    zc714,
    zc47,
    zc48,
    zc49,
    .inr (1, .inr (.inl 70)),
    .inr (1, .inr (.inl 8)),
    zc95,
    zc51,
    zc52,
    zc53,
    zc54,
    .inr (1, .inr (.inl 4))], [(1, [1], []), (2, [1], [])]),
  [((22, [], [], [], [.inl (12, [.inr (.inl (some 1)), .inr (.inl (some 2)), .inr (.inl (some 3)), .inl (false, ((.ofNat 0), [(1, (.ofNat 1))])), .inr (.inl (some 4)), .inr (.inl (some 5)), .inl (false, ((.ofNat 0), [(2, (.ofNat 1))])), .inr (.inl (some 6)), .inr (.inl (some 7)), .inl (false, ((.ofNat 1), [(3, (.ofNat 1))])), .inr (.inl (some 8)), .inl (false, ((.ofNat 0), [(4, (.ofNat 1))])), .inr (.inl (some 9)), .inr (.inl (some 10)), .inr (.inl (some 11)), .inr (.inl (some 12)), .inl (false, ((.ofNat 0), [(5, (.ofNat 1))])), .inl (false, ((.ofNat 0), [(6, (.ofNat 1))])), .inl (false, ((.ofNat 0), [(7, (.ofNat 1))])), .inr (.inl (some 13)), .inl (false, ((.ofNat 0), [(8, (.ofNat 1))])), .inl (false, ((.ofNat 0), [(9, (.ofNat 1))])), .inl (false, ((.ofNat 0), [(10, (.ofNat 1))])), .inr (.inl (some 14))]),
    zc44,
    zc118,
    zc714,
    zc47,
    zc48,
    zc49,
    .inr (1, .inr (.inl 70)),
    .inr (1, .inr (.inl 8)),
    zc95,
    zc51,
    zc52,
    zc53,
    zc54,
    .inr (1, .inr (.inl 4))], [(1, [1], []), (2, [1], [])]), 0, 0)])
noncomputable def c178_0_e : List Ct := []
noncomputable def c178_0_p0 : PE := (5, [0, 1, 3], (23, [(0, (.negSucc 9223372036854775807), (.ofNat 9223372036854775807)), (1, (.ofNat 0), (.ofNat 69)), (2, (.ofNat 0), (.ofNat 69)), (3, (.ofNat 0), (.ofNat 7)), (4, (.negSucc 2147483647), (.ofNat 2147483647)), (5, (.negSucc 2147483647), (.ofNat 2147483647)), (6, (.negSucc 2147483647), (.ofNat 2147483647)), (7, (.negSucc 2147483647), (.ofNat 2147483647)), (8, (.negSucc 2147483647), (.ofNat 2147483647)), (9, (.negSucc 2147483647), (.ofNat 2147483647)), (10, (.negSucc 2147483647), (.ofNat 2147483647)), (22, (.ofNat 0), (.ofNat 7))], [], [.inr (.inl (some 0)), .inl (true, ((.ofNat 0), [(0, (.ofNat 1))])), .inl (false, ((.ofNat 0), [(22, (.ofNat 1))]))], [zc620,
    zc44,
    zc118,
    zc714,
    zc47,
    zc48,
    zc49,
    .inr (1, .inr (.inl 70)),
    .inr (1, .inr (.inl 8)),
    zc95,
    zc51,
    zc52,
    zc53,
    zc54,
    .inr (1, .inr (.inl 4))], [(1, [1], []), (2, [1], [])]), symsL 22 0, some ((.ofNat 8), [(22, (.ofNat 1))]), 0, 0)
noncomputable def c178_0_pts : List PE := [c178_0_p0]
set_option maxRecDepth 100000 in
theorem c178_0_k : enCtF c178_0 c178_0_e (c178_0_pts ++ []) (none) (noF, noM, 32, 0, 22) 3000 = true := by decide +kernel
set_option maxRecDepth 100000 in
theorem c178_0_k0 : ptCtF c178_0 c178_0_e (c178_0_pts ++ []) (noF, noM, 32, 0, 22) 3000 c178_0_p0 = true := by decide +kernel
set_option maxRecDepth 100000 in
theorem c178_0_v : ValidC PPk c178_0 := ct_ok fpk ⟨noF_ok, noM_ok⟩ (d := 0) (ext := []) (pts := c178_0_pts) (env := c178_0_e) rfl (fun _ h => (by cases h)) ext_nil (fun q h => (by cases h)) (enF c178_0_k) (List.forall_mem_cons.mpr ⟨ptF c178_0_k0, fun _ h => (by cases h)⟩)

def zc783 : AC := .inl (12, [.inr (.inl (some 1)), .inr (.inl (some 2)), .inr (.inl (some 3)), .inl (false, ((.ofNat 0), [(0, (.ofNat 1))])), .inr (.inl (some 4)), .inr (.inl (some 5)), .inl (false, ((.ofNat 0), [(1, (.ofNat 1))])), .inr (.inl (some 6)), .inr (.inl (some 7)), .inl (false, ((.ofNat 0), [(33, (.ofNat 1))])), .inr (.inl (some 8)), .inl (false, ((.ofNat 0), [(3, (.ofNat 1))])), .inr (.inl (some 9)), .inr (.inl (some 10)), .inr (.inl (some 11)), .inr (.inl (some 12)), .inl (false, ((.ofNat 0), [(4, (.ofNat 1))])), .inl (false, ((.ofNat 0), [(5, (.ofNat 1))])), .inl (false, ((.ofNat 0), [(6, (.ofNat 1))])), .inr (.inl (some 13)), .inl (false, ((.ofNat 0), [(7, (.ofNat 1))])), .inl (false, ((.ofNat 0), [(8, (.ofNat 1))])), .inl (false, ((.ofNat 0), [(9, (.ofNat 1))])), .inr (.inl (some 14))])
def zc784 : AC := .inl (12, [.inr (.inl (some 1)), .inr (.inl (some 2)), .inr (.inl (some 3)), .inl (false, ((.ofNat 0), [(0, (.ofNat 1))])), .inr (.inl (some 4)), .inr (.inl (some 5)), .inl (false, ((.ofNat 0), [(1, (.ofNat 1))])), .inr (.inl (some 6)), .inr (.inl (some 7)), .inl (false, ((.ofNat 0), [])), .inr (.inl (some 8)), .inl (false, ((.ofNat 0), [(3, (.ofNat 1))])), .inr (.inl (some 9)), .inr (.inl (some 10)), .inr (.inl (some 11)), .inr (.inl (some 12)), .inl (false, ((.ofNat 0), [(4, (.ofNat 1))])), .inl (false, ((.ofNat 0), [(5, (.ofNat 1))])), .inl (false, ((.ofNat 0), [(6, (.ofNat 1))])), .inr (.inl (some 13)), .inl (false, ((.ofNat 0), [(7, (.ofNat 1))])), .inl (false, ((.ofNat 0), [(8, (.ofNat 1))])), .inl (false, ((.ofNat 0), [(9, (.ofNat 1))])), .inr (.inl (some 14))])
def zc785 : AC := .inl (12, [.inr (.inl (some 1)), .inr (.inl (some 2)), .inr (.inl (some 3)), .inl (false, ((.ofNat 0), [(0, (.ofNat 1))])), .inr (.inl (some 4)), .inr (.inl (some 5)), .inl (false, ((.ofNat 0), [(1, (.ofNat 1))])), .inr (.inl (some 6)), .inr (.inl (some 7)), .inl (false, ((.ofNat 0), [(36, (.ofNat 1))])), .inr (.inl (some 8)), .inl (false, ((.ofNat 0), [(3, (.ofNat 1))])), .inr (.inl (some 9)), .inr (.inl (some 10)), .inr (.inl (some 11)), .inr (.inl (some 12)), .inl (false, ((.ofNat 0), [(4, (.ofNat 1))])), .inl (false, ((.ofNat 0), [(5, (.ofNat 1))])), .inl (false, ((.ofNat 0), [(6, (.ofNat 1))])), .inr (.inl (some 13)), .inl (false, ((.ofNat 0), [(7, (.ofNat 1))])), .inl (false, ((.ofNat 0), [(8, (.ofNat 1))])), .inl (false, ((.ofNat 0), [(9, (.ofNat 1))])), .inr (.inl (some 14))])
noncomputable def c176_0 : Ct := (176, 2, (33, [(0, (.ofNat 0), (.ofNat 69)), (1, (.ofNat 0), (.ofNat 69)), (2, (.ofNat 0), (.ofNat 8)), (3, (.negSucc 2147483647), (.ofNat 2147483647)), (4, (.negSucc 2147483647), (.ofNat 2147483647)), (5, (.negSucc 2147483647), (.ofNat 2147483647)), (6, (.negSucc 2147483647), (.ofNat 2147483647)), (7, (.negSucc 2147483647), (.ofNat 2147483647)), (8, (.negSucc 2147483647), (.ofNat 2147483647)), (9, (.negSucc 2147483647), (.ofNat 2147483647)), (10, (.ofNat 1), (.ofNat 4)), (11, (.ofNat 0), (.ofNat 60)), (12, (.ofNat 0), (.ofNat 8)), (13, (.ofNat 0), (.ofNat 6)), (14, (.ofNat 0), (.ofNat 8)), (15, (.ofNat 0), (.ofNat 60)), (16, (.ofNat 0), (.ofNat 60)), (17, (.ofNat 0), (.ofNat 10)), (18, (.negSucc 2147483647), (.ofNat 2147483647)), (19, (.ofNat 0), (.ofNat 1)), (20, (.ofNat 0), (.ofNat 1)), (21, (.ofNat 0), (.ofNat 1)), (22, (.ofNat 0), (.ofNat 1))], [((.ofNat 1), [(19, (.negSucc 0)), (20, (.negSucc 0)), (21, (.negSucc 0)), (22, (.negSucc 0))])], [.inr (.inl (some 0))], [zc635,
    zc636,
    zc56,
    zc637,
    zc97,
    zc59,
    zc60,
    .inr (1, .inr (.inl 70)),
    .inr (1, .inr (.inl 8)),
    zc61,
    zc62,
    zc63,
    zc30,
    zc31,
    .inr (1, .inr (.inl 4))], [(1, [1], []), (2, [1], [])]),
  [((34, [(33, (.ofNat 0), (.ofNat 6))], [], [], [zc783,
    zc636,
    zc56,
    zc637,
    zc97,
    zc59,
    zc60,
    .inr (1, .inr (.inl 70)),
    .inr (1, .inr (.inl 8)),
    zc61,
    zc62,
    zc63,
    zc30,
    zc31,
    .inr (1, .inr (.inl 4))], [(1, [1], []), (2, [1], [])]), 0, 0)])
noncomputable def c176_0_e : List Ct := [c177_0, c178_0, c179_0]
noncomputable def c176_0_p0 : PE := (2, [0, 1], (33, [(0, (.ofNat 0), (.ofNat 69)), (1, (.ofNat 0), (.ofNat 69)), (2, (.ofNat 0), (.ofNat 8)), (3, (.negSucc 2147483647), (.ofNat 2147483647)), (4, (.negSucc 2147483647), (.ofNat 2147483647)), (5, (.negSucc 2147483647), (.ofNat 2147483647)), (6, (.negSucc 2147483647), (.ofNat 2147483647)), (7, (.negSucc 2147483647), (.ofNat 2147483647)), (8, (.negSucc 2147483647), (.ofNat 2147483647)), (9, (.negSucc 2147483647), (.ofNat 2147483647)), (10, (.ofNat 1), (.ofNat 4)), (11, (.ofNat 0), (.ofNat 60)), (12, (.ofNat 0), (.ofNat 8)), (13, (.ofNat 0), (.ofNat 6)), (14, (.ofNat 0), (.ofNat 8)), (15, (.ofNat 0), (.ofNat 60)), (16, (.ofNat 0), (.ofNat 60)), (17, (.ofNat 0), (.ofNat 10)), (18, (.negSucc 2147483647), (.ofNat 2147483647)), (19, (.ofNat 0), (.ofNat 1)), (20, (.ofNat 0), (.ofNat 1)), (21, (.ofNat 0), (.ofNat 1)), (22, (.ofNat 0), (.ofNat 1))], [((.ofNat 1), [(19, (.negSucc 0)), (20, (.negSucc 0)), (21, (.negSucc 0)), (22, (.negSucc 0))])], [.inr (.inl (some 0)), .inl (false, ((.ofNat 0), []))], [zc635,
    zc636,
    zc56,
    zc637,
    zc97,
    zc59,
    zc60,
    .inr (1, .inr (.inl 70)),
    .inr (1, .inr (.inl 8)),
    zc61,
    zc62,
    zc63,
    zc30,
    zc31,
    .inr (1, .inr (.inl 4))], [(1, [1], []), (2, [1], [])]), symsL 33 0, some ((.ofNat 245), []), 0, 0)
noncomputable def c176_0_p1 : PE := (2, [0, 1, 2], (35, [(0, (.ofNat 0), (.ofNat 69)), (1, (.ofNat 0), (.ofNat 69)), (2, (.ofNat 0), (.ofNat 8)), (3, (.negSucc 2147483647), (.ofNat 2147483647)), (4, (.negSucc 2147483647), (.ofNat 2147483647)), (5, (.negSucc 2147483647), (.ofNat 2147483647)), (6, (.negSucc 2147483647), (.ofNat 2147483647)), (7, (.negSucc 2147483647), (.ofNat 2147483647)), (8, (.negSucc 2147483647), (.ofNat 2147483647)), (9, (.negSucc 2147483647), (.ofNat 2147483647)), (10, (.ofNat 1), (.ofNat 4)), (11, (.ofNat 0), (.ofNat 60)), (12, (.ofNat 0), (.ofNat 8)), (13, (.ofNat 0), (.ofNat 6)), (14, (.ofNat 0), (.ofNat 8)), (15, (.ofNat 0), (.ofNat 60)), (16, (.ofNat 0), (.ofNat 60)), (17, (.ofNat 0), (.ofNat 10)), (18, (.negSucc 2147483647), (.ofNat 2147483647)), (19, (.ofNat 0), (.ofNat 1)), (20, (.ofNat 0), (.ofNat 1)), (21, (.ofNat 0), (.ofNat 1)), (22, (.ofNat 0), (.ofNat 1)), (33, (.ofNat 1), (.ofNat 2)), (34, (.ofNat 0), (.ofNat 6))], [((.ofNat 1), [(19, (.negSucc 0)), (20, (.negSucc 0)), (21, (.negSucc 0)), (22, (.negSucc 0))])], [.inr (.inl (some 0)), .inl (false, ((.ofNat 0), [(33, (.ofNat 1))])), .inl (false, ((.ofNat 0), [(34, (.ofNat 1))]))], [zc784,
    zc636,
    zc56,
    zc637,
    zc97,
    zc59,
    zc60,
    .inr (1, .inr (.inl 70)),
    .inr (1, .inr (.inl 8)),
    zc61,
    zc62,
    zc63,
    zc30,
    zc31,
    .inr (1, .inr (.inl 4))], [(1, [1], []), (2, [1], [])]), symsL 33 0, some ((.ofNat 245), [(33, (.negSucc 27))]), 0, 0)
noncomputable def c176_0_p2 : PE := (2, [0, 1, 2, 3], (37, [(0, (.ofNat 0), (.ofNat 69)), (1, (.ofNat 0), (.ofNat 69)), (2, (.ofNat 0), (.ofNat 8)), (3, (.negSucc 2147483647), (.ofNat 2147483647)), (4, (.negSucc 2147483647), (.ofNat 2147483647)), (5, (.negSucc 2147483647), (.ofNat 2147483647)), (6, (.negSucc 2147483647), (.ofNat 2147483647)), (7, (.negSucc 2147483647), (.ofNat 2147483647)), (8, (.negSucc 2147483647), (.ofNat 2147483647)), (9, (.negSucc 2147483647), (.ofNat 2147483647)), (10, (.ofNat 1), (.ofNat 4)), (11, (.ofNat 0), (.ofNat 60)), (12, (.ofNat 0), (.ofNat 8)), (13, (.ofNat 1), (.ofNat 6)), (14, (.ofNat 0), (.ofNat 8)), (15, (.ofNat 0), (.ofNat 60)), (16, (.ofNat 0), (.ofNat 60)), (17, (.ofNat 0), (.ofNat 10)), (18, (.negSucc 2147483647), (.ofNat 2147483647)), (19, (.ofNat 0), (.ofNat 1)), (20, (.ofNat 0), (.ofNat 1)), (21, (.ofNat 0), (.ofNat 1)), (22, (.ofNat 0), (.ofNat 1)), (33, (.ofNat 1), (.ofNat 2)), (34, (.ofNat 1), (.ofNat 6)), (35, (.negSucc 2147483647), (.ofNat 2147483647)), (36, (.ofNat 0), (.ofNat 6))], [((.ofNat 1), [(19, (.negSucc 0)), (20, (.negSucc 0)), (21, (.negSucc 0)), (22, (.negSucc 0))]), ((.ofNat 0), [(34, (.negSucc 0)), (36, (.ofNat 1))])], [.inr (.inl (some 0)), .inl (false, ((.ofNat 0), [(33, (.ofNat 1))])), .inl (false, ((.ofNat 0), [(34, (.ofNat 1))])), .inl (false, ((.ofNat 0), [(35, (.ofNat 1))]))], [zc785,
    zc636,
    zc56,
    zc637,
    zc97,
    zc59,
    zc60,
    .inr (1, .inr (.inl 70)),
    .inr (1, .inr (.inl 8)),
    zc61,
    zc62,
    zc63,
    zc30,
    zc31,
    .inr (1, .inr (.inl 4))], [(1, [1], []), (2, [1], [])]), symsL 33 0, some ((.ofNat 245), [(33, (.negSucc 27))]), 0, 0)
noncomputable def c176_0_p3 : PE := (14, [0, 1, 2], (35, [(0, (.ofNat 0), (.ofNat 69)), (1, (.ofNat 0), (.ofNat 69)), (2, (.ofNat 0), (.ofNat 8)), (3, (.negSucc 2147483647), (.ofNat 2147483647)), (4, (.negSucc 2147483647), (.ofNat 2147483647)), (5, (.negSucc 2147483647), (.ofNat 2147483647)), (6, (.negSucc 2147483647), (.ofNat 2147483647)), (7, (.negSucc 2147483647), (.ofNat 2147483647)), (8, (.negSucc 2147483647), (.ofNat 2147483647)), (9, (.negSucc 2147483647), (.ofNat 2147483647)), (10, (.ofNat 1), (.ofNat 4)), (11, (.ofNat 0), (.ofNat 60)), (12, (.ofNat 0), (.ofNat 8)), (13, (.ofNat 0), (.ofNat 6)), (14, (.ofNat 0), (.ofNat 8)), (15, (.ofNat 0), (.ofNat 60)), (16, (.ofNat 0), (.ofNat 60)), (17, (.ofNat 0), (.ofNat 10)), (18, (.negSucc 2147483647), (.ofNat 2147483647)), (19, (.ofNat 0), (.ofNat 1)), (20, (.ofNat 0), (.ofNat 1)), (21, (.ofNat 0), (.ofNat 1)), (22, (.ofNat 0), (.ofNat 1)), (33, (.ofNat 0), (.ofNat 1)), (34, (.ofNat 0), (.ofNat 6))], [((.ofNat 1), [(19, (.negSucc 0)), (20, (.negSucc 0)), (21, (.negSucc 0)), (22, (.negSucc 0))])], [.inr (.inl (some 0)), .inl (false, ((.ofNat 0), [(33, (.ofNat 1))])), .inl (false, ((.ofNat 0), [(34, (.ofNat 1))]))], [zc784,
    zc636,
    zc56,
    zc637,
    zc97,
    zc59,
    zc60,
    .inr (1, .inr (.inl 70)),
    .inr (1, .inr (.inl 8)),
    zc61,
    zc62,
    zc63,
    zc30,
    zc31,
    .inr (1, .inr (.inl 4))], [(1, [1], []), (2, [1], [])]), symsL 33 0, some ((.ofNat 237), [(33, (.negSucc 27)), (34, (.negSucc 0))]), 0, 0)
noncomputable def c176_0_p4 : PE := (14, [0, 1, 2, 3], (37, [(0, (.ofNat 0), (.ofNat 69)), (1, (.ofNat 0), (.ofNat 69)), (2, (.ofNat 0), (.ofNat 8)), (3, (.negSucc 2147483647), (.ofNat 2147483647)), (4, (.negSucc 2147483647), (.ofNat 2147483647)), (5, (.negSucc 2147483647), (.ofNat 2147483647)), (6, (.negSucc 2147483647), (.ofNat 2147483647)), (7, (.negSucc 2147483647), (.ofNat 2147483647)), (8, (.negSucc 2147483647), (.ofNat 2147483647)), (9, (.negSucc 2147483647), (.ofNat 2147483647)), (10, (.ofNat 1), (.ofNat 4)), (11, (.ofNat 0), (.ofNat 60)), (12, (.ofNat 0), (.ofNat 8)), (13, (.ofNat 1), (.ofNat 6)), (14, (.ofNat 0), (.ofNat 8)), (15, (.ofNat 0), (.ofNat 60)), (16, (.ofNat 0), (.ofNat 60)), (17, (.ofNat 0), (.ofNat 10)), (18, (.negSucc 2147483647), (.ofNat 2147483647)), (19, (.ofNat 0), (.ofNat 1)), (20, (.ofNat 0), (.ofNat 1)), (21, (.ofNat 0), (.ofNat 1)), (22, (.ofNat 0), (.ofNat 1)), (33, (.ofNat 0), (.ofNat 1)), (34, (.ofNat 0), (.ofNat 6)), (35, (.negSucc 2147483647), (.ofNat 2147483647)), (36, (.ofNat 0), (.ofNat 6))], [((.ofNat 1), [(19, (.negSucc 0)), (20, (.negSucc 0)), (21, (.negSucc 0)), (22, (.negSucc 0))]), ((.ofNat 0), [(34, (.negSucc 0)), (36, (.ofNat 1))])], [.inr (.inl (some 0)), .inl (false, ((.ofNat 0), [(33, (.ofNat 1))])), .inl (false, ((.ofNat 0), [(34, (.ofNat 1))])), .inl (false, ((.ofNat 0), [(35, (.ofNat 1))]))], [zc785,
    zc636,
    zc56,
    zc637,
    zc97,
    zc59,
    zc60,
    .inr (1, .inr (.inl 70)),
    .inr (1, .inr (.inl 8)),
    zc61,
    zc62,
    zc63,
    zc30,
    zc31,
    .inr (1, .inr (.inl 4))], [(1, [1], []), (2, [1], [])]), symsL 33 0, some ((.ofNat 237), [(33, (.negSucc 27)), (34, (.negSucc 0))]), 0, 0)
noncomputable def c176_0_pts : List PE := [c176_0_p0, c176_0_p1, c176_0_p2, c176_0_p3, c176_0_p4]
set_option maxRecDepth 100000 in
theorem c176_0_k : enCtF c176_0 c176_0_e (c176_0_pts ++ []) (none) (noF, noM, 16388, 0, 33) 3000 = true := by decide +kernel
set_option maxRecDepth 100000 in
theorem c176_0_k0 : ptCtF c176_0 c176_0_e (c176_0_pts ++ []) (noF, noM, 16388, 0, 33) 3000 c176_0_p0 = true := by decide +kernel
set_option maxRecDepth 100000 in
theorem c176_0_k1 : ptCtF c176_0 c176_0_e (c176_0_pts ++ []) (noF, noM, 16388, 0, 33) 3000 c176_0_p1 = true := by decide +kernel
set_option maxRecDepth 100000 in
theorem c176_0_k2 : ptCtF c176_0 c176_0_e (c176_0_pts ++ []) (noF, noM, 16388, 0, 33) 3000 c176_0_p2 = true := by decide +kernel
set_option maxRecDepth 100000 in
theorem c176_0_k3 : ptCtF c176_0 c176_0_e (c176_0_pts ++ []) (noF, noM, 16388, 0, 33) 3000 c176_0_p3 = true := by decide +kernel
set_option maxRecDepth 100000 in
theorem c176_0_k4 : ptCtF c176_0 c176_0_e (c176_0_pts ++ []) (noF, noM, 16388, 0, 33) 3000 c176_0_p4 = true := by decide +kernel
set_option maxRecDepth 100000 in
theorem c176_0_v : ValidC PPk c176_0 := ct_ok fpk ⟨noF_ok, noM_ok⟩ (d := 1) (ext := []) (pts := c176_0_pts) (env := c176_0_e) rfl (List.forall_mem_cons.mpr ⟨⟨c177_0_v, Nat.le_of_ble_eq_true rfl⟩, List.forall_mem_cons.mpr ⟨⟨c178_0_v, Nat.le_of_ble_eq_true rfl⟩, List.forall_mem_cons.mpr ⟨⟨c179_0_v, Nat.le_of_ble_eq_true rfl⟩, fun _ h => (by cases h)⟩⟩⟩) ext_nil (fun q h => (by cases h)) (enF c176_0_k) (List.forall_mem_cons.mpr ⟨ptF c176_0_k0, List.forall_mem_cons.mpr ⟨ptF c176_0_k1, List.forall_mem_cons.mpr ⟨ptF c176_0_k2, List.forall_mem_cons.mpr ⟨ptF c176_0_k3, List.forall_mem_cons.mpr ⟨ptF c176_0_k4, fun _ h => (by cases h)⟩⟩⟩⟩⟩)

noncomputable def c175_1 : Ct := (175, 1, (33, [(0, (.ofNat 0), (.ofNat 69)), (1, (.ofNat 0), (.ofNat 69)), (2, (.ofNat 0), (.ofNat 8)), (3, (.negSucc 2147483647), (.ofNat 2147483647)), (4, (.negSucc 2147483647), (.ofNat 2147483647)), (5, (.negSucc 2147483647), (.ofNat 2147483647)), (6, (.negSucc 2147483647), (.ofNat 2147483647)), (7, (.negSucc 2147483647), (.ofNat 2147483647)), (8, (.negSucc 2147483647), (.ofNat 2147483647)), (9, (.negSucc 2147483647), (.ofNat 2147483647)), (10, (.ofNat 1), (.ofNat 4)), (11, (.ofNat 0), (.ofNat 60)), (12, (.ofNat 0), (.ofNat 8)), (13, (.ofNat 0), (.ofNat 6)), (14, (.ofNat 0), (.ofNat 8)), (15, (.ofNat 0), (.ofNat 60)), (16, (.ofNat 0), (.ofNat 60)), (17, (.ofNat 0), (.ofNat 10)), (18, (.negSucc 2147483647), (.ofNat 2147483647)), (19, (.ofNat 0), (.ofNat 1)), (20, (.ofNat 0), (.ofNat 1)), (21, (.ofNat 0), (.ofNat 1)), (22, (.ofNat 0), (.ofNat 1))], [((.ofNat 1), [(19, (.negSucc 0)), (20, (.negSucc 0)), (21, (.negSucc 0)), (22, (.negSucc 0))])], [.inr (.inl (some 0)), .inl (false, ((.ofNat 1), [])), .inl (false, ((.ofNat 12), []))], [zc635,
    zc636,
    zc56,
    zc637,
    zc97,
    zc59,
    zc60,
    .inr (1, .inr (.inl 70)),
    .inr (1, .inr (.inl 8)),
    zc61,
    zc62,
    zc63,
    zc30,
    zc31,
    .inr (1, .inr (.inl 4))], [(1, [1], []), (2, [1], [])]),
  [((33, [], [], [.inl (false, ((.ofNat 0), [(20, (.ofNat 1))]))], [zc635,
    zc636,
    zc56,
    zc637,
    zc97,
    zc59,
    zc60,
    .inr (1, .inr (.inl 70)),
    .inr (1, .inr (.inl 8)),
    zc61,
    zc62,
    zc63,
    zc30,
    zc31,
    .inr (1, .inr (.inl 4))], [(1, [1], []), (2, [1], [])]), 0, 0)])
noncomputable def c175_1_e : List Ct := []
noncomputable def c175_1_pts : List PE := []
set_option maxRecDepth 100000 in
theorem c175_1_k : enCtF c175_1 c175_1_e (c175_1_pts ++ []) (none) noH 3000 = true := by decide +kernel
set_option maxRecDepth 100000 in
theorem c175_1_v : ValidC PPk c175_1 := ct_ok fpk noH_ok (d := 0) (ext := []) (pts := c175_1_pts) (env := c175_1_e) rfl (fun _ h => (by cases h)) ext_nil (fun q h => (by cases h)) (enF c175_1_k) (fun _ h => (by cases h))

noncomputable def c175_2 : Ct := (175, 1, (33, [(0, (.ofNat 0), (.ofNat 69)), (1, (.ofNat 0), (.ofNat 69)), (2, (.ofNat 0), (.ofNat 8)), (3, (.negSucc 2147483647), (.ofNat 2147483647)), (4, (.negSucc 2147483647), (.ofNat 2147483647)), (5, (.negSucc 2147483647), (.ofNat 2147483647)), (6, (.negSucc 2147483647), (.ofNat 2147483647)), (7, (.negSucc 2147483647), (.ofNat 2147483647)), (8, (.negSucc 2147483647), (.ofNat 2147483647)), (9, (.negSucc 2147483647), (.ofNat 2147483647)), (10, (.ofNat 1), (.ofNat 4)), (11, (.ofNat 0), (.ofNat 60)), (12, (.ofNat 0), (.ofNat 8)), (13, (.ofNat 0), (.ofNat 6)), (14, (.ofNat 0), (.ofNat 8)), (15, (.ofNat 0), (.ofNat 60)), (16, (.ofNat 0), (.ofNat 60)), (17, (.ofNat 0), (.ofNat 10)), (18, (.negSucc 2147483647), (.ofNat 2147483647)), (19, (.ofNat 0), (.ofNat 1)), (20, (.ofNat 0), (.ofNat 1)), (21, (.ofNat 0), (.ofNat 1)), (22, (.ofNat 0), (.ofNat 1))], [((.ofNat 1), [(19, (.negSucc 0)), (20, (.negSucc 0)), (21, (.negSucc 0)), (22, (.negSucc 0))])], [.inr (.inl (some 0)), .inl (false, ((.ofNat 2), [])), .inl (false, ((.ofNat 12), []))], [zc635,
    zc636,
    zc56,
    zc637,
    zc97,
    zc59,
    zc60,
    .inr (1, .inr (.inl 70)),
    .inr (1, .inr (.inl 8)),
    zc61,
    zc62,
    zc63,
    zc30,
    zc31,
    .inr (1, .inr (.inl 4))], [(1, [1], []), (2, [1], [])]),
  [((33, [], [], [.inl (false, ((.ofNat 0), [(21, (.ofNat 1))]))], [zc635,
    zc636,
    zc56,
    zc637,
    zc97,
    zc59,
    zc60,
    .inr (1, .inr (.inl 70)),
    .inr (1, .inr (.inl 8)),
    zc61,
    zc62,
    zc63,
    zc30,
    zc31,
    .inr (1, .inr (.inl 4))], [(1, [1], []), (2, [1], [])]), 0, 0)])
noncomputable def c175_2_e : List Ct := []
noncomputable def c175_2_pts : List PE := []
set_option maxRecDepth 100000 in
theorem c175_2_k : enCtF c175_2 c175_2_e (c175_2_pts ++ []) (none) noH 3000 = true := by decide +kernel
set_option maxRecDepth 100000 in
theorem c175_2_v : ValidC PPk c175_2 := ct_ok fpk noH_ok (d := 0) (ext := []) (pts := c175_2_pts) (env := c175_2_e) rfl (fun _ h => (by cases h)) ext_nil (fun q h => (by cases h)) (enF c175_2_k) (fun _ h => (by cases h))

noncomputable def c175_3 : Ct := (175, 1, (33, [(0, (.ofNat 0), (.ofNat 69)), (1, (.ofNat 0), (.ofNat 69)), (2, (.ofNat 0), (.ofNat 8)), (3, (.negSucc 2147483647), (.ofNat 2147483647)), (4, (.negSucc 2147483647), (.ofNat 2147483647)), (5, (.negSucc 2147483647), (.ofNat 2147483647)), (6, (.negSucc 2147483647), (.ofNat 2147483647)), (7, (.negSucc 2147483647), (.ofNat 2147483647)), (8, (.negSucc 2147483647), (.ofNat 2147483647)), (9, (.negSucc 2147483647), (.ofNat 2147483647)), (10, (.ofNat 1), (.ofNat 4)), (11, (.ofNat 0), (.ofNat 60)), (12, (.ofNat 0), (.ofNat 8)), (13, (.ofNat 0), (.ofNat 6)), (14, (.ofNat 0), (.ofNat 8)), (15, (.ofNat 0), (.ofNat 60)), (16, (.ofNat 0), (.ofNat 60)), (17, (.ofNat 0), (.ofNat 10)), (18, (.negSucc 2147483647), (.ofNat 2147483647)), (19, (.ofNat 0), (.ofNat 1)), (20, (.ofNat 0), (.ofNat 1)), (21, (.ofNat 0), (.ofNat 1)), (22, (.ofNat 0), (.ofNat 1))], [((.ofNat 1), [(19, (.negSucc 0)), (20, (.negSucc 0)), (21, (.negSucc 0)), (22, (.negSucc 0))])], [.inr (.inl (some 0)), .inl (false, ((.ofNat 3), [])), .inl (false, ((.ofNat 12), []))], [zc635,
    zc636,
    zc56,
    zc637,
    zc97,
    zc59,
    zc60,
    .inr (1, .inr (.inl 70)),
    .inr (1, .inr (.inl 8)),
    zc61,
    zc62,
    zc63,
    zc30,
    zc31,
    .inr (1, .inr (.inl 4))], [(1, [1], []), (2, [1], [])]),
  [((33, [], [], [.inl (false, ((.ofNat 0), [(22, (.ofNat 1))]))], [zc635,
    zc636,
    zc56,
    zc637,
    zc97,
    zc59,
    zc60,
    .inr (1, .inr (.inl 70)),
    .inr (1, .inr (.inl 8)),
    zc61,
    zc62,
    zc63,
    zc30,
    zc31,
    .inr (1, .inr (.inl 4))], [(1, [1], []), (2, [1], [])]), 0, 0)])
noncomputable def c175_3_e : List Ct := []
noncomputable def c175_3_pts : List PE := []
set_option maxRecDepth 100000 in
theorem c175_3_k : enCtF c175_3 c175_3_e (c175_3_pts ++ []) (none) noH 3000 = true := by decide +kernel
set_option maxRecDepth 100000 in
theorem c175_3_v : ValidC PPk c175_3 := ct_ok fpk noH_ok (d := 0) (ext := []) (pts := c175_3_pts) (env := c175_3_e) rfl (fun _ h => (by cases h)) ext_nil (fun q h => (by cases h)) (enF c175_3_k) (fun _ h => (by cases h))

noncomputable def c175_4 : Ct := (175, 1, (33, [(0, (.ofNat 0), (.ofNat 69)), (1, (.ofNat 0), (.ofNat 69)), (2, (.ofNat 0), (.ofNat 8)), (3, (.negSucc 2147483647), (.ofNat 2147483647)), (4, (.negSucc 2147483647), (.ofNat 2147483647)), (5, (.negSucc 2147483647), (.ofNat 2147483647)), (6, (.negSucc 2147483647), (.ofNat 2147483647)), (7, (.negSucc 2147483647), (.ofNat 2147483647)), (8, (.negSucc 2147483647), (.ofNat 2147483647)), (9, (.negSucc 2147483647), (.ofNat 2147483647)), (10, (.ofNat 1), (.ofNat 4)), (11, (.ofNat 0), (.ofNat 60)), (12, (.ofNat 0), (.ofNat 8)), (13, (.ofNat 0), (.ofNat 6)), (14, (.ofNat 0), (.ofNat 8)), (15, (.ofNat 0), (.ofNat 60)), (16, (.ofNat 0), (.ofNat 60)), (17, (.ofNat 0), (.ofNat 10)), (18, (.negSucc 2147483647), (.ofNat 2147483647)), (19, (.ofNat 0), (.ofNat 1)), (20, (.ofNat 0), (.ofNat 1)), (21, (.ofNat 0), (.ofNat 1)), (22, (.ofNat 0), (.ofNat 1))], [((.ofNat 1), [(19, (.negSucc 0)), (20, (.negSucc 0)), (21, (.negSucc 0)), (22, (.negSucc 0))])], [.inr (.inl (some 0)), .inl (false, ((.ofNat 0), [])), .inl (false, ((.ofNat 16), []))], [zc635,
    zc636,
    zc56,
    zc637,
    zc97,
    zc59,
    zc60,
    .inr (1, .inr (.inl 70)),
    .inr (1, .inr (.inl 8)),
    zc61,
    zc62,
    zc63,
    zc30,
    zc31,
    .inr (1, .inr (.inl 4))], [(1, [1], []), (2, [1], [])]),
  [((34, [(33, (.negSucc 2147483647), (.ofNat 2147483647))], [], [.inl (false, ((.ofNat 0), [(33, (.ofNat 1))]))], [zc635,
    zc636,
    zc56,
    zc637,
    zc97,
    zc59,
    zc60,
    .inr (1, .inr (.inl 70)),
    .inr (1, .inr (.inl 8)),
    zc61,
    zc62,
    zc63,
    zc30,
    zc31,
    .inr (1, .inr (.inl 4))], [(1, [1], []), (2, [1], [])]), 0, 0)])
noncomputable def c175_4_e : List Ct := []
noncomputable def c175_4_pts : List PE := []
set_option maxRecDepth 100000 in
theorem c175_4_k : enCtF c175_4 c175_4_e (c175_4_pts ++ []) (none) noH 3000 = true := by decide +kernel
set_option maxRecDepth 100000 in
theorem c175_4_v : ValidC PPk c175_4 := ct_ok fpk noH_ok (d := 0) (ext := []) (pts := c175_4_pts) (env := c175_4_e) rfl (fun _ h => (by cases h)) ext_nil (fun q h => (by cases h)) (enF c175_4_k) (fun _ h => (by cases h))

noncomputable def c182_0 : Ct := (182, 2, (34, [(0, (.ofNat 0), (.ofNat 59)), (1, (.ofNat 0), (.ofNat 69)), (2, (.ofNat 0), (.ofNat 69)), (3, (.ofNat 0), (.ofNat 8)), (4, (.negSucc 2147483647), (.ofNat 2147483647)), (5, (.negSucc 2147483647), (.ofNat 2147483647)), (6, (.negSucc 2147483647), (.ofNat 2147483647)), (7, (.negSucc 2147483647), (.ofNat 2147483647)), (8, (.negSucc 2147483647), (.ofNat 2147483647)), (9, (.negSucc 2147483647), (.ofNat 2147483647)), (10, (.negSucc 2147483647), (.ofNat 2147483647)), (11, (.ofNat 1), (.ofNat 4)), (12, (.ofNat 0), (.ofNat 60)), (13, (.ofNat 0), (.ofNat 8)), (14, (.ofNat 0), (.ofNat 6)), (15, (.ofNat 0), (.ofNat 8)), (16, (.ofNat 0), (.ofNat 60)), (17, (.ofNat 0), (.ofNat 60)), (18, (.ofNat 0), (.ofNat 10)), (19, (.negSucc 2147483647), (.ofNat 2147483647)), (20, (.ofNat 0), (.ofNat 1)), (21, (.ofNat 0), (.ofNat 1)), (22, (.ofNat 0), (.ofNat 1)), (23, (.ofNat 0), (.ofNat 1))], [((.ofNat 1), [(20, (.negSucc 0)), (21, (.negSucc 0)), (22, (.negSucc 0)), (23, (.negSucc 0))])], [.inr (.inl (some 0)), .inl (false, ((.ofNat 0), [])), .inl (false, ((.ofNat 0), [(0, (.ofNat 1))]))], [zc620,
    zc621,
    zc57,
    zc622,
    zc59,
    zc60,
    zc61,
    .inr (1, .inr (.inl 70)),
    .inr (1, .inr (.inl 8)),
    zc62,
    zc63,
    zc30,
    zc31,
    zc32,
    .inr (1, .inr (.inl 4))], [(1, [1], []), (2, [1], [])]),
  [((35, [(34, (.negSucc 2147483647), (.ofNat 2147483647))], [], [.inl (false, ((.ofNat 0), [(34, (.ofNat 1))]))], [zc620,
    zc621,
    zc57,
    zc622,
    zc59,
    zc60,
    zc61,
    .inr (1, .inr (.inl 70)),
    .inr (1, .inr (.inl 8)),
    zc62,
    zc63,
    zc30,
    zc31,
    zc32,
    .inr (1, .inr (.inl 4))], [(1, [1], []), (2, [1], [])]), 0, 0)])
noncomputable def c182_0_e : List Ct := [c145_0]
noncomputable def c182_0_pts : List PE := []
set_option maxRecDepth 100000 in
theorem c182_0_k : enCtF c182_0 c182_0_e (c182_0_pts ++ []) (none) ((hOr (atPc 3 (fRec 2)) (atPc 225 (fCut 8 (.negSucc 0)))), noM, 0, 53919893334301279589334030174039261347274288845081144962207220498440, 34) 3000 = true := by decide +kernel
set_option maxRecDepth 100000 in
theorem c182_0_v : ValidC PPk c182_0 := ct_ok fpk ⟨(hOr_ok (atPc_ok (fRec_ok 2)) (atPc_ok (fCut_ok 8 (.negSucc 0)))), noM_ok⟩ (d := 1) (ext := []) (pts := c182_0_pts) (env := c182_0_e) rfl (List.forall_mem_cons.mpr ⟨⟨c145_0_v, Nat.le_of_ble_eq_true rfl⟩, fun _ h => (by cases h)⟩) ext_nil (fun q h => (by cases h)) (enF c182_0_k) (fun _ h => (by cases h))

noncomputable def c181_0 : Ct := (181, 3, (35, [(0, (.ofNat 0), (.ofNat 5)), (1, (.negSucc 0), (.ofNat 40)), (2, (.ofNat 0), (.ofNat 69)), (3, (.ofNat 0), (.ofNat 69)), (4, (.ofNat 0), (.ofNat 8)), (5, (.negSucc 2147483647), (.ofNat 2147483647)), (6, (.negSucc 2147483647), (.ofNat 2147483647)), (7, (.negSucc 2147483647), (.ofNat 2147483647)), (8, (.negSucc 2147483647), (.ofNat 2147483647)), (9, (.negSucc 2147483647), (.ofNat 2147483647)), (10, (.negSucc 2147483647), (.ofNat 2147483647)), (11, (.negSucc 2147483647), (.ofNat 2147483647)), (12, (.ofNat 1), (.ofNat 4)), (13, (.ofNat 0), (.ofNat 60)), (14, (.ofNat 0), (.ofNat 8)), (15, (.ofNat 0), (.ofNat 6)), (16, (.ofNat 0), (.ofNat 8)), (17, (.ofNat 0), (.ofNat 60)), (18, (.ofNat 0), (.ofNat 60)), (19, (.ofNat 0), (.ofNat 10)), (20, (.negSucc 2147483647), (.ofNat 2147483647)), (21, (.ofNat 0), (.ofNat 1)), (22, (.ofNat 0), (.ofNat 1)), (23, (.ofNat 0), (.ofNat 1)), (24, (.ofNat 0), (.ofNat 1))], [((.ofNat 1), [(21, (.negSucc 0)), (22, (.negSucc 0)), (23, (.negSucc 0)), (24, (.negSucc 0))])], [.inr (.inl (some 0)), .inl (false, ((.ofNat 0), [])), .inl (false, ((.ofNat 0), [(0, (.ofNat 1))])), .inl (false, ((.ofNat 0), [(1, (.ofNat 1))]))], [zc638,
    zc639,
    zc97,
    zc640,
    zc60,
    zc61,
    zc62,
    .inr (1, .inr (.inl 70)),
    .inr (1, .inr (.inl 8)),
    zc63,
    zc30,
    zc31,
    zc32,
    zc33,
    .inr (1, .inr (.inl 4))], [(1, [1], []), (2, [1], [])]),
  [((36, [(35, (.ofNat 0), (.ofNat 1))], [], [.inl (false, ((.ofNat 0), [(35, (.ofNat 1))]))], [zc638,
    zc639,
    zc97,
    zc640,
    zc60,
    zc61,
    zc62,
    .inr (1, .inr (.inl 70)),
    .inr (1, .inr (.inl 8)),
    zc63,
    zc30,
    zc31,
    zc32,
    zc33,
    .inr (1, .inr (.inl 4))], [(1, [1], []), (2, [1], [])]), 0, 0)])
noncomputable def c181_0_e : List Ct := [c182_0]
noncomputable def c181_0_p0 : PE := (37, [0, 1, 2, 3, 4, 5, 6, 7], (37, [(0, (.ofNat 0), (.ofNat 5)), (1, (.negSucc 0), (.ofNat 40)), (2, (.ofNat 0), (.ofNat 69)), (3, (.ofNat 0), (.ofNat 69)), (4, (.ofNat 0), (.ofNat 8)), (5, (.negSucc 2147483647), (.ofNat 2147483647)), (6, (.negSucc 2147483647), (.ofNat 2147483647)), (7, (.negSucc 2147483647), (.ofNat 2147483647)), (8, (.negSucc 2147483647), (.ofNat 2147483647)), (9, (.negSucc 2147483647), (.ofNat 2147483647)), (10, (.negSucc 2147483647), (.ofNat 2147483647)), (11, (.negSucc 2147483647), (.ofNat 2147483647)), (12, (.ofNat 1), (.ofNat 4)), (13, (.ofNat 0), (.ofNat 60)), (14, (.ofNat 0), (.ofNat 8)), (15, (.ofNat 0), (.ofNat 6)), (16, (.ofNat 0), (.ofNat 8)), (17, (.ofNat 0), (.ofNat 60)), (18, (.ofNat 0), (.ofNat 60)), (19, (.ofNat 0), (.ofNat 10)), (20, (.negSucc 2147483647), (.ofNat 2147483647)), (21, (.ofNat 0), (.ofNat 1)), (22, (.ofNat 0), (.ofNat 1)), (23, (.ofNat 0), (.ofNat 1)), (24, (.ofNat 0), (.ofNat 1)), (35, (.ofNat 0), (.ofNat 60)), (36, (.ofNat 0), (.ofNat 60))], [((.ofNat 1), [(21, (.negSucc 0)), (22, (.negSucc 0)), (23, (.negSucc 0)), (24, (.negSucc 0))])], [.inr (.inl (some 0)), .inl (false, ((.ofNat 0), [])), .inl (false, ((.ofNat 0), [(0, (.ofNat 1))])), .inl (false, ((.ofNat 0), [(1, (.ofNat 1))])), .inl (false, ((.ofNat 0), [(35, (.ofNat 1))])), .inl (false, ((.ofNat 0), [(36, (.ofNat 1))])), .inl (false, ((.ofNat 0), [(35, (.ofNat 1))])), .inl (false, ((.ofNat 0), [(1, (.ofNat 1))]))], [zc638,
    zc639,
    zc97,
    zc640,
    zc60,
    zc61,
    zc62,
    .inr (1, .inr (.inl 70)),
    .inr (1, .inr (.inl 8)),
    zc63,
    zc30,
    zc31,
    zc32,
    zc33,
    .inr (1, .inr (.inl 4))], [(1, [1], []), (2, [1], [])]), symsL 35 0, some ((.ofNat 34359738368), []), 0, 0)
noncomputable def c181_0_p1 : PE := (37, [0, 1, 2, 3, 4, 5, 6, 7, 8], (39, [(0, (.ofNat 0), (.ofNat 5)), (1, (.negSucc 0), (.negSucc 0)), (2, (.ofNat 0), (.ofNat 69)), (3, (.ofNat 0), (.ofNat 69)), (4, (.ofNat 0), (.ofNat 8)), (5, (.negSucc 2147483647), (.ofNat 2147483647)), (6, (.negSucc 2147483647), (.ofNat 2147483647)), (7, (.negSucc 2147483647), (.ofNat 2147483647)), (8, (.negSucc 2147483647), (.ofNat 2147483647)), (9, (.negSucc 2147483647), (.ofNat 2147483647)), (10, (.negSucc 2147483647), (.ofNat 2147483647)), (11, (.negSucc 2147483647), (.ofNat 2147483647)), (12, (.ofNat 1), (.ofNat 4)), (13, (.ofNat 1), (.ofNat 60)), (14, (.ofNat 0), (.ofNat 8)), (15, (.ofNat 0), (.ofNat 6)), (16, (.ofNat 0), (.ofNat 8)), (17, (.ofNat 0), (.ofNat 60)), (18, (.ofNat 0), (.ofNat 60)), (19, (.ofNat 0), (.ofNat 10)), (20, (.negSucc 2147483647), (.ofNat 2147483647)), (21, (.ofNat 0), (.ofNat 1)), (22, (.ofNat 0), (.ofNat 1)), (23, (.ofNat 0), (.ofNat 1)), (24, (.ofNat 0), (.ofNat 1)), (35, (.ofNat 0), (.ofNat 59)), (36, (.ofNat 1), (.ofNat 60)), (37, (.negSucc 2147483647), (.ofNat 2147483647)), (38, (.negSucc 2147483647), (.negSucc 1))], [((.ofNat 1), [(21, (.negSucc 0)), (22, (.negSucc 0)), (23, (.negSucc 0)), (24, (.negSucc 0))])], [.inr (.inl (some 0)), .inl (false, ((.ofNat 0), [])), .inl (false, ((.ofNat 0), [(0, (.ofNat 1))])), .inl (false, ((.ofNat 0), [(1, (.ofNat 1))])), .inl (false, ((.ofNat 0), [(35, (.ofNat 1))])), .inl (false, ((.ofNat 0), [(36, (.ofNat 1))])), .inl (false, ((.ofNat 0), [(37, (.ofNat 1))])), .inl (false, ((.ofNat 0), [(38, (.ofNat 1))])), .inl (false, ((.ofNat 0), [(37, (.ofNat 1))]))], [zc638,
    zc639,
    zc97,
    zc640,
    zc60,
    zc61,
    zc62,
    .inr (1, .inr (.inl 70)),
    .inr (1, .inr (.inl 8)),
    zc63,
    zc30,
    zc31,
    zc32,
    zc33,
    .inr (1, .inr (.inl 4))], [(1, [1], []), (2, [1], [])]), symsL 35 0, some ((.ofNat 8589934592), [(38, (.ofNat 1))]), 0, 0)
noncomputable def c181_0_p2 : PE := (37, [0, 1, 2, 3, 4, 5, 6, 7, 8], (39, [(0, (.ofNat 0), (.ofNat 5)), (1, (.negSucc 0), (.ofNat 40)), (2, (.ofNat 0), (.ofNat 69)), (3, (.ofNat 0), (.ofNat 69)), (4, (.ofNat 0), (.ofNat 8)), (5, (.negSucc 2147483647), (.ofNat 2147483647)), (6, (.negSucc 2147483647), (.ofNat 2147483647)), (7, (.negSucc 2147483647), (.ofNat 2147483647)), (8, (.negSucc 2147483647), (.ofNat 2147483647)), (9, (.negSucc 2147483647), (.ofNat 2147483647)), (10, (.negSucc 2147483647), (.ofNat 2147483647)), (11, (.negSucc 2147483647), (.ofNat 2147483647)), (12, (.ofNat 1), (.ofNat 4)), (13, (.ofNat 1), (.ofNat 60)), (14, (.ofNat 0), (.ofNat 8)), (15, (.ofNat 0), (.ofNat 6)), (16, (.ofNat 0), (.ofNat 8)), (17, (.ofNat 0), (.ofNat 60)), (18, (.ofNat 0), (.ofNat 60)), (19, (.ofNat 0), (.ofNat 10)), (20, (.negSucc 2147483647), (.ofNat 2147483647)), (21, (.ofNat 0), (.ofNat 1)), (22, (.ofNat 0), (.ofNat 1)), (23, (.ofNat 0), (.ofNat 1)), (24, (.ofNat 0), (.ofNat 1)), (35, (.ofNat 0), (.ofNat 59)), (36, (.ofNat 1), (.ofNat 60)), (37, (.negSucc 2147483647), (.ofNat 2147483647)), (38, (.ofNat 0), (.ofNat 2147483647))], [((.ofNat 1), [(21, (.negSucc 0)), (22, (.negSucc 0)), (23, (.negSucc 0)), (24, (.negSucc 0))])], [.inr (.inl (some 0)), .inl (false, ((.ofNat 0), [])), .inl (false, ((.ofNat 0), [(0, (.ofNat 1))])), .inl (false, ((.ofNat 0), [(1, (.ofNat 1))])), .inl (false, ((.ofNat 0), [(35, (.ofNat 1))])), .inl (false, ((.ofNat 0), [(36, (.ofNat 1))])), .inl (false, ((.ofNat 0), [(37, (.ofNat 1))])), .inl (false, ((.ofNat 0), [(38, (.ofNat 1))])), .inl (false, ((.ofNat 0), [(37, (.ofNat 1))]))], [zc638,
    zc639,
    zc97,
    zc640,
    zc60,
    zc61,
    zc62,
    .inr (1, .inr (.inl 70)),
    .inr (1, .inr (.inl 8)),
    zc63,
    zc30,
    zc31,
    zc32,
    zc33,
    .inr (1, .inr (.inl 4))], [(1, [1], []), (2, [1], [])]), symsL 35 0, some ((.ofNat 0), [(38, (.ofNat 1))]), 0, 0)
noncomputable def c181_0_pts : List PE := [c181_0_p0, c181_0_p1, c181_0_p2]
set_option maxRecDepth 100000 in
theorem c181_0_k : enCtF c181_0 c181_0_e (c181_0_pts ++ []) (none) ((hOr (atPc 37 (fCut 7 (.negSucc 0))) (atPc 69 (fCut 7 (.negSucc 2147483647)))), noM, 137438953472, 590295810496144605184, 35) 3000 = true := by decide +kernel
set_option maxRecDepth 100000 in
theorem c181_0_k0 : ptCtF c181_0 c181_0_e (c181_0_pts ++ []) ((hOr (atPc 37 (fCut 7 (.negSucc 0))) (atPc 69 (fCut 7 (.negSucc 2147483647)))), noM, 137438953472, 590295810496144605184, 35) 3000 c181_0_p0 = true := by decide +kernel
set_option maxRecDepth 100000 in
theorem c181_0_k1 : ptCtF c181_0 c181_0_e (c181_0_pts ++ []) ((hOr (atPc 37 (fCut 7 (.negSucc 0))) (atPc 69 (fCut 7 (.negSucc 2147483647)))), noM, 137438953472, 590295810496144605184, 35) 3000 c181_0_p1 = true := by decide +kernel
set_option maxRecDepth 100000 in
theorem c181_0_k2 : ptCtF c181_0 c181_0_e (c181_0_pts ++ []) ((hOr (atPc 37 (fCut 7 (.negSucc 0))) (atPc 69 (fCut 7 (.negSucc 2147483647)))), noM, 137438953472, 590295810496144605184, 35) 3000 c181_0_p2 = true := by decide +kernel
set_option maxRecDepth 100000 in
theorem c181_0_v : ValidC PPk c181_0 := ct_ok fpk ⟨(hOr_ok (atPc_ok (fCut_ok 7 (.negSucc 0))) (atPc_ok (fCut_ok 7 (.negSucc 2147483647)))), noM_ok⟩ (d := 2) (ext := []) (pts := c181_0_pts) (env := c181_0_e) rfl (List.forall_mem_cons.mpr ⟨⟨c182_0_v, Nat.le_of_ble_eq_true rfl⟩, fun _ h => (by cases h)⟩) ext_nil (fun q h => (by cases h)) (enF c181_0_k) (List.forall_mem_cons.mpr ⟨ptF c181_0_k0, List.forall_mem_cons.mpr ⟨ptF c181_0_k1, List.forall_mem_cons.mpr ⟨ptF c181_0_k2, fun _ h => (by cases h)⟩⟩⟩)

noncomputable def c175_5 : Ct := (175, 1, (33, [(0, (.ofNat 0), (.ofNat 69)), (1, (.ofNat 0), (.ofNat 69)), (2, (.ofNat 0), (.ofNat 8)), (3, (.negSucc 2147483647), (.ofNat 2147483647)), (4, (.negSucc 2147483647), (.ofNat 2147483647)), (5, (.negSucc 2147483647), (.ofNat 2147483647)), (6, (.negSucc 2147483647), (.ofNat 2147483647)), (7, (.negSucc 2147483647), (.ofNat 2147483647)), (8, (.negSucc 2147483647), (.ofNat 2147483647)), (9, (.negSucc 2147483647), (.ofNat 2147483647)), (10, (.ofNat 1), (.ofNat 4)), (11, (.ofNat 0), (.ofNat 60)), (12, (.ofNat 0), (.ofNat 8)), (13, (.ofNat 0), (.ofNat 6)), (14, (.ofNat 0), (.ofNat 8)), (15, (.ofNat 0), (.ofNat 60)), (16, (.ofNat 0), (.ofNat 60)), (17, (.ofNat 0), (.ofNat 10)), (18, (.negSucc 2147483647), (.ofNat 2147483647)), (19, (.ofNat 0), (.ofNat 1)), (20, (.ofNat 0), (.ofNat 1)), (21, (.ofNat 0), (.ofNat 1)), (22, (.ofNat 0), (.ofNat 1))], [((.ofNat 1), [(19, (.negSucc 0)), (20, (.negSucc 0)), (21, (.negSucc 0)), (22, (.negSucc 0))])], [.inr (.inl (some 0)), .inl (false, ((.ofNat 1), [])), .inl (false, ((.ofNat 16), []))], [zc635,
    zc636,
    zc56,
    zc637,
    zc97,
    zc59,
    zc60,
    .inr (1, .inr (.inl 70)),
    .inr (1, .inr (.inl 8)),
    zc61,
    zc62,
    zc63,
    zc30,
    zc31,
    .inr (1, .inr (.inl 4))], [(1, [1], []), (2, [1], [])]),
  [((34, [(33, (.negSucc 2147483647), (.ofNat 2147483647))], [], [.inl (false, ((.ofNat 0), [(33, (.ofNat 1))]))], [zc635,
    zc636,
    zc56,
    zc637,
    zc97,
    zc59,
    zc60,
    .inr (1, .inr (.inl 70)),
    .inr (1, .inr (.inl 8)),
    zc61,
    zc62,
    zc63,
    zc30,
    zc31,
    .inr (1, .inr (.inl 4))], [(1, [1], []), (2, [1], [])]), 0, 0)])
noncomputable def c175_5_e : List Ct := []
noncomputable def c175_5_pts : List PE := []
set_option maxRecDepth 100000 in
theorem c175_5_k : enCtF c175_5 c175_5_e (c175_5_pts ++ []) (none) noH 3000 = true := by decide +kernel
set_option maxRecDepth 100000 in
theorem c175_5_v : ValidC PPk c175_5 := ct_ok fpk noH_ok (d := 0) (ext := []) (pts := c175_5_pts) (env := c175_5_e) rfl (fun _ h => (by cases h)) ext_nil (fun q h => (by cases h)) (enF c175_5_k) (fun _ h => (by cases h))

noncomputable def c182_1 : Ct := (182, 2, (34, [(0, (.ofNat 0), (.ofNat 59)), (1, (.ofNat 0), (.ofNat 69)), (2, (.ofNat 0), (.ofNat 69)), (3, (.ofNat 0), (.ofNat 8)), (4, (.negSucc 2147483647), (.ofNat 2147483647)), (5, (.negSucc 2147483647), (.ofNat 2147483647)), (6, (.negSucc 2147483647), (.ofNat 2147483647)), (7, (.negSucc 2147483647), (.ofNat 2147483647)), (8, (.negSucc 2147483647), (.ofNat 2147483647)), (9, (.negSucc 2147483647), (.ofNat 2147483647)), (10, (.negSucc 2147483647), (.ofNat 2147483647)), (11, (.ofNat 1), (.ofNat 4)), (12, (.ofNat 0), (.ofNat 60)), (13, (.ofNat 0), (.ofNat 8)), (14, (.ofNat 0), (.ofNat 6)), (15, (.ofNat 0), (.ofNat 8)), (16, (.ofNat 0), (.ofNat 60)), (17, (.ofNat 0), (.ofNat 60)), (18, (.ofNat 0), (.ofNat 10)), (19, (.negSucc 2147483647), (.ofNat 2147483647)), (20, (.ofNat 0), (.ofNat 1)), (21, (.ofNat 0), (.ofNat 1)), (22, (.ofNat 0), (.ofNat 1)), (23, (.ofNat 0), (.ofNat 1))], [((.ofNat 1), [(20, (.negSucc 0)), (21, (.negSucc 0)), (22, (.negSucc 0)), (23, (.negSucc 0))])], [.inr (.inl (some 0)), .inl (false, ((.ofNat 1), [])), .inl (false, ((.ofNat 0), [(0, (.ofNat 1))]))], [zc620,
    zc621,
    zc57,
    zc622,
    zc59,
    zc60,
    zc61,
    .inr (1, .inr (.inl 70)),
    .inr (1, .inr (.inl 8)),
    zc62,
    zc63,
    zc30,
    zc31,
    zc32,
    .inr (1, .inr (.inl 4))], [(1, [1], []), (2, [1], [])]),
  [((35, [(34, (.negSucc 2147483647), (.ofNat 2147483647))], [], [.inl (false, ((.ofNat 0), [(34, (.ofNat 1))]))], [zc620,
    zc621,
    zc57,
    zc622,
    zc59,
    zc60,
    zc61,
    .inr (1, .inr (.inl 70)),
    .inr (1, .inr (.inl 8)),
    zc62,
    zc63,
    zc30,
    zc31,
    zc32,
    .inr (1, .inr (.inl 4))], [(1, [1], []), (2, [1], [])]), 0, 0)])
noncomputable def c182_1_e : List Ct := [c145_0]
noncomputable def c182_1_pts : List PE := []
set_option maxRecDepth 100000 in
theorem c182_1_k : enCtF c182_1 c182_1_e (c182_1_pts ++ []) (none) ((hOr (atPc 3 (fRec 2)) (atPc 225 (fCut 8 (.negSucc 0)))), noM, 0, 53919893334301279589334030174039261347274288845081144962207220498440, 34) 3000 = true := by decide +kernel
set_option maxRecDepth 100000 in
theorem c182_1_v : ValidC PPk c182_1 := ct_ok fpk ⟨(hOr_ok (atPc_ok (fRec_ok 2)) (atPc_ok (fCut_ok 8 (.negSucc 0)))), noM_ok⟩ (d := 1) (ext := []) (pts := c182_1_pts) (env := c182_1_e) rfl (List.forall_mem_cons.mpr ⟨⟨c145_0_v, Nat.le_of_ble_eq_true rfl⟩, fun _ h => (by cases h)⟩) ext_nil (fun q h => (by cases h)) (enF c182_1_k) (fun _ h => (by cases h))

noncomputable def c181_1 : Ct := (181, 3, (35, [(0, (.ofNat 0), (.ofNat 5)), (1, (.negSucc 0), (.ofNat 40)), (2, (.ofNat 0), (.ofNat 69)), (3, (.ofNat 0), (.ofNat 69)), (4, (.ofNat 0), (.ofNat 8)), (5, (.negSucc 2147483647), (.ofNat 2147483647)), (6, (.negSucc 2147483647), (.ofNat 2147483647)), (7, (.negSucc 2147483647), (.ofNat 2147483647)), (8, (.negSucc 2147483647), (.ofNat 2147483647)), (9, (.negSucc 2147483647), (.ofNat 2147483647)), (10, (.negSucc 2147483647), (.ofNat 2147483647)), (11, (.negSucc 2147483647), (.ofNat 2147483647)), (12, (.ofNat 1), (.ofNat 4)), (13, (.ofNat 0), (.ofNat 60)), (14, (.ofNat 0), (.ofNat 8)), (15, (.ofNat 0), (.ofNat 6)), (16, (.ofNat 0), (.ofNat 8)), (17, (.ofNat 0), (.ofNat 60)), (18, (.ofNat 0), (.ofNat 60)), (19, (.ofNat 0), (.ofNat 10)), (20, (.negSucc 2147483647), (.ofNat 2147483647)), (21, (.ofNat 0), (.ofNat 1)), (22, (.ofNat 0), (.ofNat 1)), (23, (.ofNat 0), (.ofNat 1)), (24, (.ofNat 0), (.ofNat 1))], [((.ofNat 1), [(21, (.negSucc 0)), (22, (.negSucc 0)), (23, (.negSucc 0)), (24, (.negSucc 0))])], [.inr (.inl (some 0)), .inl (false, ((.ofNat 1), [])), .inl (false, ((.ofNat 0), [(0, (.ofNat 1))])), .inl (false, ((.ofNat 0), [(1, (.ofNat 1))]))], [zc638,
    zc639,
    zc97,
    zc640,
    zc60,
    zc61,
    zc62,
    .inr (1, .inr (.inl 70)),
    .inr (1, .inr (.inl 8)),
    zc63,
    zc30,
    zc31,
    zc32,
    zc33,
    .inr (1, .inr (.inl 4))], [(1, [1], []), (2, [1], [])]),
  [((36, [(35, (.ofNat 0), (.ofNat 1))], [], [.inl (false, ((.ofNat 0), [(35, (.ofNat 1))]))], [zc638,
    zc639,
    zc97,
    zc640,
    zc60,
    zc61,
    zc62,
    .inr (1, .inr (.inl 70)),
    .inr (1, .inr (.inl 8)),
    zc63,
    zc30,
    zc31,
    zc32,
    zc33,
    .inr (1, .inr (.inl 4))], [(1, [1], []), (2, [1], [])]), 0, 0)])
noncomputable def c181_1_e : List Ct := [c182_1]
noncomputable def c181_1_p0 : PE := (37, [0, 1, 2, 3, 4, 5, 6, 7], (37, [(0, (.ofNat 0), (.ofNat 5)), (1, (.negSucc 0), (.ofNat 40)), (2, (.ofNat 0), (.ofNat 69)), (3, (.ofNat 0), (.ofNat 69)), (4, (.ofNat 0), (.ofNat 8)), (5, (.negSucc 2147483647), (.ofNat 2147483647)), (6, (.negSucc 2147483647), (.ofNat 2147483647)), (7, (.negSucc 2147483647), (.ofNat 2147483647)), (8, (.negSucc 2147483647), (.ofNat 2147483647)), (9, (.negSucc 2147483647), (.ofNat 2147483647)), (10, (.negSucc 2147483647), (.ofNat 2147483647)), (11, (.negSucc 2147483647), (.ofNat 2147483647)), (12, (.ofNat 1), (.ofNat 4)), (13, (.ofNat 0), (.ofNat 60)), (14, (.ofNat 0), (.ofNat 8)), (15, (.ofNat 0), (.ofNat 6)), (16, (.ofNat 0), (.ofNat 8)), (17, (.ofNat 0), (.ofNat 60)), (18, (.ofNat 0), (.ofNat 60)), (19, (.ofNat 0), (.ofNat 10)), (20, (.negSucc 2147483647), (.ofNat 2147483647)), (21, (.ofNat 0), (.ofNat 1)), (22, (.ofNat 0), (.ofNat 1)), (23, (.ofNat 0), (.ofNat 1)), (24, (.ofNat 0), (.ofNat 1)), (35, (.ofNat 0), (.ofNat 60)), (36, (.ofNat 0), (.ofNat 60))], [((.ofNat 1), [(21, (.negSucc 0)), (22, (.negSucc 0)), (23, (.negSucc 0)), (24, (.negSucc 0))])], [.inr (.inl (some 0)), .inl (false, ((.ofNat 1), [])), .inl (false, ((.ofNat 0), [(0, (.ofNat 1))])), .inl (false, ((.ofNat 0), [(1, (.ofNat 1))])), .inl (false, ((.ofNat 0), [(35, (.ofNat 1))])), .inl (false, ((.ofNat 0), [(36, (.ofNat 1))])), .inl (false, ((.ofNat 0), [(35, (.ofNat 1))])), .inl (false, ((.ofNat 0), [(1, (.ofNat 1))]))], [zc638,
    zc639,
    zc97,
    zc640,
    zc60,
    zc61,
    zc62,
    .inr (1, .inr (.inl 70)),
    .inr (1, .inr (.inl 8)),
    zc63,
    zc30,
    zc31,
    zc32,
    zc33,
    .inr (1, .inr (.inl 4))], [(1, [1], []), (2, [1], [])]), symsL 35 0, some ((.ofNat 34359738368), []), 0, 0)
noncomputable def c181_1_p1 : PE := (37, [0, 1, 2, 3, 4, 5, 6, 7, 8], (39, [(0, (.ofNat 0), (.ofNat 5)), (1, (.negSucc 0), (.negSucc 0)), (2, (.ofNat 0), (.ofNat 69)), (3, (.ofNat 0), (.ofNat 69)), (4, (.ofNat 0), (.ofNat 8)), (5, (.negSucc 2147483647), (.ofNat 2147483647)), (6, (.negSucc 2147483647), (.ofNat 2147483647)), (7, (.negSucc 2147483647), (.ofNat 2147483647)), (8, (.negSucc 2147483647), (.ofNat 2147483647)), (9, (.negSucc 2147483647), (.ofNat 2147483647)), (10, (.negSucc 2147483647), (.ofNat 2147483647)), (11, (.negSucc 2147483647), (.ofNat 2147483647)), (12, (.ofNat 1), (.ofNat 4)), (13, (.ofNat 1), (.ofNat 60)), (14, (.ofNat 0), (.ofNat 8)), (15, (.ofNat 0), (.ofNat 6)), (16, (.ofNat 0), (.ofNat 8)), (17, (.ofNat 0), (.ofNat 60)), (18, (.ofNat 0), (.ofNat 60)), (19, (.ofNat 0), (.ofNat 10)), (20, (.negSucc 2147483647), (.ofNat 2147483647)), (21, (.ofNat 0), (.ofNat 1)), (22, (.ofNat 0), (.ofNat 1)), (23, (.ofNat 0), (.ofNat 1)), (24, (.ofNat 0), (.ofNat 1)), (35, (.ofNat 0), (.ofNat 59)), (36, (.ofNat 1), (.ofNat 60)), (37, (.negSucc 2147483647), (.ofNat 2147483647)), (38, (.negSucc 2147483647), (.negSucc 1))], [((.ofNat 1), [(21, (.negSucc 0)), (22, (.negSucc 0)), (23, (.negSucc 0)), (24, (.negSucc 0))])], [.inr (.inl (some 0)), .inl (false, ((.ofNat 1), [])), .inl (false, ((.ofNat 0), [(0, (.ofNat 1))])), .inl (false, ((.ofNat 0), [(1, (.ofNat 1))])), .inl (false, ((.ofNat 0), [(35, (.ofNat 1))])), .inl (false, ((.ofNat 0), [(36, (.ofNat 1))])), .inl (false, ((.ofNat 0), [(37, (.ofNat 1))])), .inl (false, ((.ofNat 0), [(38, (.ofNat 1))])), .inl (false, ((.ofNat 0), [(37, (.ofNat 1))]))], [zc638,
    zc639,
    zc97,
    zc640,
    zc60,
    zc61,
    zc62,
    .inr (1, .inr (.inl 70)),
    .inr (1, .inr (.inl 8)),
    zc63,
    zc30,
    zc31,
    zc32,
    zc33,
    .inr (1, .inr (.inl 4))], [(1, [1], []), (2, [1], [])]), symsL 35 0, some ((.ofNat 8589934592), [(38, (.ofNat 1))]), 0, 0)
noncomputable def c181_1_p2 : PE := (37, [0, 1, 2, 3, 4, 5, 6, 7, 8], (39, [(0, (.ofNat 0), (.ofNat 5)), (1, (.negSucc 0), (.ofNat 40)), (2, (.ofNat 0), (.ofNat 69)), (3, (.ofNat 0), (.ofNat 69)), (4, (.ofNat 0), (.ofNat 8)), (5, (.negSucc 2147483647), (.ofNat 2147483647)), (6, (.negSucc 2147483647), (.ofNat 2147483647)), (7, (.negSucc 2147483647), (.ofNat 2147483647)), (8, (.negSucc 2147483647), (.ofNat 2147483647)), (9, (.negSucc 2147483647), (.ofNat 2147483647)), (10, (.negSucc 2147483647), (.ofNat 2147483647)), (11, (.negSucc 2147483647), (.ofNat 2147483647)), (12, (.ofNat 1), (.ofNat 4)), (13, (.ofNat 1), (.ofNat 60)), (14, (.ofNat 0), (.ofNat 8)), (15, (.ofNat 0), (.ofNat 6)), (16, (.ofNat 0), (.ofNat 8)), (17, (.ofNat 0), (.ofNat 60)), (18, (.ofNat 0), (.ofNat 60)), (19, (.ofNat 0), (.ofNat 10)), (20, (.negSucc 2147483647), (.ofNat 2147483647)), (21, (.ofNat 0), (.ofNat 1)), (22, (.ofNat 0), (.ofNat 1)), (23, (.ofNat 0), (.ofNat 1)), (24, (.ofNat 0), (.ofNat 1)), (35, (.ofNat 0), (.ofNat 59)), (36, (.ofNat 1), (.ofNat 60)), (37, (.negSucc 2147483647), (.ofNat 2147483647)), (38, (.ofNat 0), (.ofNat 2147483647))], [((.ofNat 1), [(21, (.negSucc 0)), (22, (.negSucc 0)), (23, (.negSucc 0)), (24, (.negSucc 0))])], [.inr (.inl (some 0)), .inl (false, ((.ofNat 1), [])), .inl (false, ((.ofNat 0), [(0, (.ofNat 1))])), .inl (false, ((.ofNat 0), [(1, (.ofNat 1))])), .inl (false, ((.ofNat 0), [(35, (.ofNat 1))])), .inl (false, ((.ofNat 0), [(36, (.ofNat 1))])), .inl (false, ((.ofNat 0), [(37, (.ofNat 1))])), .inl (false, ((.ofNat 0), [(38, (.ofNat 1))])), .inl (false, ((.ofNat 0), [(37, (.ofNat 1))]))], [zc638,
    zc639,
    zc97,
    zc640,
    zc60,
    zc61,
    zc62,
    .inr (1, .inr (.inl 70)),
    .inr (1, .inr (.inl 8)),
    zc63,
    zc30,
    zc31,
    zc32,
    zc33,
    .inr (1, .inr (.inl 4))], [(1, [1], []), (2, [1], [])]), symsL 35 0, some ((.ofNat 0), [(38, (.ofNat 1))]), 0, 0)
noncomputable def c181_1_pts : List PE := [c181_1_p0, c181_1_p1, c181_1_p2]
set_option maxRecDepth 100000 in
theorem c181_1_k : enCtF c181_1 c181_1_e (c181_1_pts ++ []) (none) ((hOr (atPc 37 (fCut 7 (.negSucc 0))) (atPc 69 (fCut 7 (.negSucc 2147483647)))), noM, 137438953472, 590295810496144605184, 35) 3000 = true := by decide +kernel
set_option maxRecDepth 100000 in
theorem c181_1_k0 : ptCtF c181_1 c181_1_e (c181_1_pts ++ []) ((hOr (atPc 37 (fCut 7 (.negSucc 0))) (atPc 69 (fCut 7 (.negSucc 2147483647)))), noM, 137438953472, 590295810496144605184, 35) 3000 c181_1_p0 = true := by decide +kernel
set_option maxRecDepth 100000 in
theorem c181_1_k1 : ptCtF c181_1 c181_1_e (c181_1_pts ++ []) ((hOr (atPc 37 (fCut 7 (.negSucc 0))) (atPc 69 (fCut 7 (.negSucc 2147483647)))), noM, 137438953472, 590295810496144605184, 35) 3000 c181_1_p1 = true := by decide +kernel
set_option maxRecDepth 100000 in
theorem c181_1_k2 : ptCtF c181_1 c181_1_e (c181_1_pts ++ []) ((hOr (atPc 37 (fCut 7 (.negSucc 0))) (atPc 69 (fCut 7 (.negSucc 2147483647)))), noM, 137438953472, 590295810496144605184, 35) 3000 c181_1_p2 = true := by decide +kernel
set_option maxRecDepth 100000 in
theorem c181_1_v : ValidC PPk c181_1 := ct_ok fpk ⟨(hOr_ok (atPc_ok (fCut_ok 7 (.negSucc 0))) (atPc_ok (fCut_ok 7 (.negSucc 2147483647)))), noM_ok⟩ (d := 2) (ext := []) (pts := c181_1_pts) (env := c181_1_e) rfl (List.forall_mem_cons.mpr ⟨⟨c182_1_v, Nat.le_of_ble_eq_true rfl⟩, fun _ h => (by cases h)⟩) ext_nil (fun q h => (by cases h)) (enF c181_1_k) (List.forall_mem_cons.mpr ⟨ptF c181_1_k0, List.forall_mem_cons.mpr ⟨ptF c181_1_k1, List.forall_mem_cons.mpr ⟨ptF c181_1_k2, fun _ h => (by cases h)⟩⟩⟩)

noncomputable def c175_6 : Ct := (175, 1, (33, [(0, (.ofNat 0), (.ofNat 69)), (1, (.ofNat 0), (.ofNat 69)), (2, (.ofNat 0), (.ofNat 8)), (3, (.negSucc 2147483647), (.ofNat 2147483647)), (4, (.negSucc 2147483647), (.ofNat 2147483647)), (5, (.negSucc 2147483647), (.ofNat 2147483647)), (6, (.negSucc 2147483647), (.ofNat 2147483647)), (7, (.negSucc 2147483647), (.ofNat 2147483647)), (8, (.negSucc 2147483647), (.ofNat 2147483647)), (9, (.negSucc 2147483647), (.ofNat 2147483647)), (10, (.ofNat 1), (.ofNat 4)), (11, (.ofNat 0), (.ofNat 60)), (12, (.ofNat 0), (.ofNat 8)), (13, (.ofNat 0), (.ofNat 6)), (14, (.ofNat 0), (.ofNat 8)), (15, (.ofNat 0), (.ofNat 60)), (16, (.ofNat 0), (.ofNat 60)), (17, (.ofNat 0), (.ofNat 10)), (18, (.negSucc 2147483647), (.ofNat 2147483647)), (19, (.ofNat 0), (.ofNat 1)), (20, (.ofNat 0), (.ofNat 1)), (21, (.ofNat 0), (.ofNat 1)), (22, (.ofNat 0), (.ofNat 1))], [((.ofNat 1), [(19, (.negSucc 0)), (20, (.negSucc 0)), (21, (.negSucc 0)), (22, (.negSucc 0))])], [.inr (.inl (some 0)), .inl (false, ((.ofNat 2), [])), .inl (false, ((.ofNat 16), []))], [zc635,
    zc636,
    zc56,
    zc637,
    zc97,
    zc59,
    zc60,
    .inr (1, .inr (.inl 70)),
    .inr (1, .inr (.inl 8)),
    zc61,
    zc62,
    zc63,
    zc30,
    zc31,
    .inr (1, .inr (.inl 4))], [(1, [1], []), (2, [1], [])]),
  [((34, [(33, (.negSucc 2147483647), (.ofNat 2147483647))], [], [.inl (false, ((.ofNat 0), [(33, (.ofNat 1))]))], [zc635,
    zc636,
    zc56,
    zc637,
    zc97,
    zc59,
    zc60,
    .inr (1, .inr (.inl 70)),
    .inr (1, .inr (.inl 8)),
    zc61,
    zc62,
    zc63,
    zc30,
    zc31,
    .inr (1, .inr (.inl 4))], [(1, [1], []), (2, [1], [])]), 0, 0)])
noncomputable def c175_6_e : List Ct := []
noncomputable def c175_6_pts : List PE := []
set_option maxRecDepth 100000 in
theorem c175_6_k : enCtF c175_6 c175_6_e (c175_6_pts ++ []) (none) noH 3000 = true := by decide +kernel
set_option maxRecDepth 100000 in
theorem c175_6_v : ValidC PPk c175_6 := ct_ok fpk noH_ok (d := 0) (ext := []) (pts := c175_6_pts) (env := c175_6_e) rfl (fun _ h => (by cases h)) ext_nil (fun q h => (by cases h)) (enF c175_6_k) (fun _ h => (by cases h))

noncomputable def c182_2 : Ct := (182, 2, (34, [(0, (.ofNat 0), (.ofNat 59)), (1, (.ofNat 0), (.ofNat 69)), (2, (.ofNat 0), (.ofNat 69)), (3, (.ofNat 0), (.ofNat 8)), (4, (.negSucc 2147483647), (.ofNat 2147483647)), (5, (.negSucc 2147483647), (.ofNat 2147483647)), (6, (.negSucc 2147483647), (.ofNat 2147483647)), (7, (.negSucc 2147483647), (.ofNat 2147483647)), (8, (.negSucc 2147483647), (.ofNat 2147483647)), (9, (.negSucc 2147483647), (.ofNat 2147483647)), (10, (.negSucc 2147483647), (.ofNat 2147483647)), (11, (.ofNat 1), (.ofNat 4)), (12, (.ofNat 0), (.ofNat 60)), (13, (.ofNat 0), (.ofNat 8)), (14, (.ofNat 0), (.ofNat 6)), (15, (.ofNat 0), (.ofNat 8)), (16, (.ofNat 0), (.ofNat 60)), (17, (.ofNat 0), (.ofNat 60)), (18, (.ofNat 0), (.ofNat 10)), (19, (.negSucc 2147483647), (.ofNat 2147483647)), (20, (.ofNat 0), (.ofNat 1)), (21, (.ofNat 0), (.ofNat 1)), (22, (.ofNat 0), (.ofNat 1)), (23, (.ofNat 0), (.ofNat 1))], [((.ofNat 1), [(20, (.negSucc 0)), (21, (.negSucc 0)), (22, (.negSucc 0)), (23, (.negSucc 0))])], [.inr (.inl (some 0)), .inl (false, ((.ofNat 2), [])), .inl (false, ((.ofNat 0), [(0, (.ofNat 1))]))], [zc620,
    zc621,
    zc57,
    zc622,
    zc59,
    zc60,
    zc61,
    .inr (1, .inr (.inl 70)),
    .inr (1, .inr (.inl 8)),
    zc62,
    zc63,
    zc30,
    zc31,
    zc32,
    .inr (1, .inr (.inl 4))], [(1, [1], []), (2, [1], [])]),
  [((35, [(34, (.negSucc 2147483647), (.ofNat 2147483647))], [], [.inl (false, ((.ofNat 0), [(34, (.ofNat 1))]))], [zc620,
    zc621,
    zc57,
    zc622,
    zc59,
    zc60,
    zc61,
    .inr (1, .inr (.inl 70)),
    .inr (1, .inr (.inl 8)),
    zc62,
    zc63,
    zc30,
    zc31,
    zc32,
    .inr (1, .inr (.inl 4))], [(1, [1], []), (2, [1], [])]), 0, 0)])
noncomputable def c182_2_e : List Ct := [c145_0]
noncomputable def c182_2_pts : List PE := []
set_option maxRecDepth 100000 in
theorem c182_2_k : enCtF c182_2 c182_2_e (c182_2_pts ++ []) (none) ((hOr (atPc 3 (fRec 2)) (atPc 225 (fCut 8 (.negSucc 0)))), noM, 0, 53919893334301279589334030174039261347274288845081144962207220498440, 34) 3000 = true := by decide +kernel
set_option maxRecDepth 100000 in
theorem c182_2_v : ValidC PPk c182_2 := ct_ok fpk ⟨(hOr_ok (atPc_ok (fRec_ok 2)) (atPc_ok (fCut_ok 8 (.negSucc 0)))), noM_ok⟩ (d := 1) (ext := []) (pts := c182_2_pts) (env := c182_2_e) rfl (List.forall_mem_cons.mpr ⟨⟨c145_0_v, Nat.le_of_ble_eq_true rfl⟩, fun _ h => (by cases h)⟩) ext_nil (fun q h => (by cases h)) (enF c182_2_k) (fun _ h => (by cases h))

noncomputable def c181_2 : Ct := (181, 3, (35, [(0, (.ofNat 0), (.ofNat 5)), (1, (.negSucc 0), (.ofNat 40)), (2, (.ofNat 0), (.ofNat 69)), (3, (.ofNat 0), (.ofNat 69)), (4, (.ofNat 0), (.ofNat 8)), (5, (.negSucc 2147483647), (.ofNat 2147483647)), (6, (.negSucc 2147483647), (.ofNat 2147483647)), (7, (.negSucc 2147483647), (.ofNat 2147483647)), (8, (.negSucc 2147483647), (.ofNat 2147483647)), (9, (.negSucc 2147483647), (.ofNat 2147483647)), (10, (.negSucc 2147483647), (.ofNat 2147483647)), (11, (.negSucc 2147483647), (.ofNat 2147483647)), (12, (.ofNat 1), (.ofNat 4)), (13, (.ofNat 0), (.ofNat 60)), (14, (.ofNat 0), (.ofNat 8)), (15, (.ofNat 0), (.ofNat 6)), (16, (.ofNat 0), (.ofNat 8)), (17, (.ofNat 0), (.ofNat 60)), (18, (.ofNat 0), (.ofNat 60)), (19, (.ofNat 0), (.ofNat 10)), (20, (.negSucc 2147483647), (.ofNat 2147483647)), (21, (.ofNat 0), (.ofNat 1)), (22, (.ofNat 0), (.ofNat 1)), (23, (.ofNat 0), (.ofNat 1)), (24, (.ofNat 0), (.ofNat 1))], [((.ofNat 1), [(21, (.negSucc 0)), (22, (.negSucc 0)), (23, (.negSucc 0)), (24, (.negSucc 0))])], [.inr (.inl (some 0)), .inl (false, ((.ofNat 2), [])), .inl (false, ((.ofNat 0), [(0, (.ofNat 1))])), .inl (false, ((.ofNat 0), [(1, (.ofNat 1))]))], [zc638,
    zc639,
    zc97,
    zc640,
    zc60,
    zc61,
    zc62,
    .inr (1, .inr (.inl 70)),
    .inr (1, .inr (.inl 8)),
    zc63,
    zc30,
    zc31,
    zc32,
    zc33,
    .inr (1, .inr (.inl 4))], [(1, [1], []), (2, [1], [])]),
  [((36, [(35, (.ofNat 0), (.ofNat 1))], [], [.inl (false, ((.ofNat 0), [(35, (.ofNat 1))]))], [zc638,
    zc639,
    zc97,
    zc640,
    zc60,
    zc61,
    zc62,
    .inr (1, .inr (.inl 70)),
    .inr (1, .inr (.inl 8)),
    zc63,
    zc30,
    zc31,
    zc32,
    zc33,
    .inr (1, .inr (.inl 4))], [(1, [1], []), (2, [1], [])]), 0, 0)])
noncomputable def c181_2_e : List Ct := [c182_2]
noncomputable def c181_2_p0 : PE := (37, [0, 1, 2, 3, 4, 5, 6, 7], (37, [(0, (.ofNat 0), (.ofNat 5)), (1, (.negSucc 0), (.ofNat 40)), (2, (.ofNat 0), (.ofNat 69)), (3, (.ofNat 0), (.ofNat 69)), (4, (.ofNat 0), (.ofNat 8)), (5, (.negSucc 2147483647), (.ofNat 2147483647)), (6, (.negSucc 2147483647), (.ofNat 2147483647)), (7, (.negSucc 2147483647), (.ofNat 2147483647)), (8, (.negSucc 2147483647), (.ofNat 2147483647)), (9, (.negSucc 2147483647), (.ofNat 2147483647)), (10, (.negSucc 2147483647), (.ofNat 2147483647)), (11, (.negSucc 2147483647), (.ofNat 2147483647)), (12, (.ofNat 1), (.ofNat 4)), (13, (.ofNat 0), (.ofNat 60)), (14, (.ofNat 0), (.ofNat 8)), (15, (.ofNat 0), (.ofNat 6)), (16, (.ofNat 0), (.ofNat 8)), (17, (.ofNat 0), (.ofNat 60)), (18, (.ofNat 0), (.ofNat 60)), (19, (.ofNat 0), (.ofNat 10)), (20, (.negSucc 2147483647), (.ofNat 2147483647)), (21, (.ofNat 0), (.ofNat 1)), (22, (.ofNat 0), (.ofNat 1)), (23, (.ofNat 0), (.ofNat 1)), (24, (.ofNat 0), (.ofNat 1)), (35, (.ofNat 0), (.ofNat 60)), (36, (.ofNat 0), (.ofNat 60))], [((.ofNat 1), [(21, (.negSucc 0)), (22, (.negSucc 0)), (23, (.negSucc 0)), (24, (.negSucc 0))])], [.inr (.inl (some 0)), .inl (false, ((.ofNat 2), [])), .inl (false, ((.ofNat 0), [(0, (.ofNat 1))])), .inl (false, ((.ofNat 0), [(1, (.ofNat 1))])), .inl (false, ((.ofNat 0), [(35, (.ofNat 1))])), .inl (false, ((.ofNat 0), [(36, (.ofNat 1))])), .inl (false, ((.ofNat 0), [(35, (.ofNat 1))])), .inl (false, ((.ofNat 0), [(1, (.ofNat 1))]))], [zc638,
    zc639,
    zc97,
    zc640,
    zc60,
    zc61,
    zc62,
    .inr (1, .inr (.inl 70)),
    .inr (1, .inr (.inl 8)),
    zc63,
    zc30,
    zc31,
    zc32,
    zc33,
    .inr (1, .inr (.inl 4))], [(1, [1], []), (2, [1], [])]), symsL 35 0, some ((.ofNat 34359738368), []), 0, 0)
noncomputable def c181_2_p1 : PE := (37, [0, 1, 2, 3, 4, 5, 6, 7, 8], (39, [(0, (.ofNat 0), (.ofNat 5)), (1, (.negSucc 0), (.negSucc 0)), (2, (.ofNat 0), (.ofNat 69)), (3, (.ofNat 0), (.ofNat 69)), (4, (.ofNat 0), (.ofNat 8)), (5, (.negSucc 2147483647), (.ofNat 2147483647)), (6, (.negSucc 2147483647), (.ofNat 2147483647)), (7, (.negSucc 2147483647), (.ofNat 2147483647)), (8, (.negSucc 2147483647), (.ofNat 2147483647)), (9, (.negSucc 2147483647), (.ofNat 2147483647)), (10, (.negSucc 2147483647), (.ofNat 2147483647)), (11, (.negSucc 2147483647), (.ofNat 2147483647)), (12, (.ofNat 1), (.ofNat 4)), (13, (.ofNat 1), (.ofNat 60)), (14, (.ofNat 0), (.ofNat 8)), (15, (.ofNat 0), (.ofNat 6)), (16, (.ofNat 0), (.ofNat 8)), (17, (.ofNat 0), (.ofNat 60)), (18, (.ofNat 0), (.ofNat 60)), (19, (.ofNat 0), (.ofNat 10)), (20, (.negSucc 2147483647), (.ofNat 2147483647)), (21, (.ofNat 0), (.ofNat 1)), (22, (.ofNat 0), (.ofNat 1)), (23, (.ofNat 0), (.ofNat 1)), (24, (.ofNat 0), (.ofNat 1)), (35, (.ofNat 0), (.ofNat 59)), (36, (.ofNat 1), (.ofNat 60)), (37, (.negSucc 2147483647), (.ofNat 2147483647)), (38, (.negSucc 2147483647), (.negSucc 1))], [((.ofNat 1), [(21, (.negSucc 0)), (22, (.negSucc 0)), (23, (.negSucc 0)), (24, (.negSucc 0))])], [.inr (.inl (some 0)), .inl (false, ((.ofNat 2), [])), .inl (false, ((.ofNat 0), [(0, (.ofNat 1))])), .inl (false, ((.ofNat 0), [(1, (.ofNat 1))])), .inl (false, ((.ofNat 0), [(35, (.ofNat 1))])), .inl (false, ((.ofNat 0), [(36, (.ofNat 1))])), .inl (false, ((.ofNat 0), [(37, (.ofNat 1))])), .inl (false, ((.ofNat 0), [(38, (.ofNat 1))])), .inl (false, ((.ofNat 0), [(37, (.ofNat 1))]))], [zc638,
    zc639,
    zc97,
    zc640,
    zc60,
    zc61,
    zc62,
    .inr (1, .inr (.inl 70)),
    .inr (1, .inr (.inl 8)),
    zc63,
    zc30,
    zc31,
    zc32,
    zc33,
    .inr (1, .inr (.inl 4))], [(1, [1], []), (2, [1], [])]), symsL 35 0, some ((.ofNat 8589934592), [(38, (.ofNat 1))]), 0, 0)
noncomputable def c181_2_p2 : PE := (37, [0, 1, 2, 3, 4, 5, 6, 7, 8], (39, [(0, (.ofNat 0), (.ofNat 5)), (1, (.negSucc 0), (.ofNat 40)), (2, (.ofNat 0), (.ofNat 69)), (3, (.ofNat 0), (.ofNat 69)), (4, (.ofNat 0), (.ofNat 8)), (5, (.negSucc 2147483647), (.ofNat 2147483647)), (6, (.negSucc 2147483647), (.ofNat 2147483647)), (7, (.negSucc 2147483647), (.ofNat 2147483647)), (8, (.negSucc 2147483647), (.ofNat 2147483647)), (9, (.negSucc 2147483647), (.ofNat 2147483647)), (10, (.negSucc 2147483647), (.ofNat 2147483647)), (11, (.negSucc 2147483647), (.ofNat 2147483647)), (12, (.ofNat 1), (.ofNat 4)), (13, (.ofNat 1), (.ofNat 60)), (14, (.ofNat 0), (.ofNat 8)), (15, (.ofNat 0), (.ofNat 6)), (16, (.ofNat 0), (.ofNat 8)), (17, (.ofNat 0), (.ofNat 60)), (18, (.ofNat 0), (.ofNat 60)), (19, (.ofNat 0), (.ofNat 10)), (20, (.negSucc 2147483647), (.ofNat 2147483647)), (21, (.ofNat 0), (.ofNat 1)), (22, (.ofNat 0), (.ofNat 1)), (23, (.ofNat 0), (.ofNat 1)), (24, (.ofNat 0), (.ofNat 1)), (35, (.ofNat 0), (.ofNat 59)), (36, (.ofNat 1), (.ofNat 60)), (37, (.negSucc 2147483647), (.ofNat 2147483647)), (38, (.ofNat 0), (.ofNat 2147483647))], [((.ofNat 1), [(21, (.negSucc 0)), (22, (.negSucc 0)), (23, (.negSucc 0)), (24, (.negSucc 0))])], [.inr (.inl (some 0)), .inl (false, ((.ofNat 2), [])), .inl (false, ((.ofNat 0), [(0, (.ofNat 1))])), .inl (false, ((.ofNat 0), [(1, (.ofNat 1))])), .inl (false, ((.ofNat 0), [(35, (.ofNat 1))])), .inl (false, ((.ofNat 0), [(36, (.ofNat 1))])), .inl (false, ((.ofNat 0), [(37, (.ofNat 1))])), .inl (false, ((.ofNat 0), [(38, (.ofNat 1))])), .inl (false, ((.ofNat 0), [(37, (.ofNat 1))]))], [zc638,
    zc639,
    zc97,
    zc640,
    zc60,
    zc61,
    zc62,
    .inr (1, .inr (.inl 70)),
    .inr (1, .inr (.inl 8)),
    zc63,
    zc30,
    zc31,
    zc32,
    zc33,
    .inr (1, .inr (.inl 4))], [(1, [1], []), (2, [1], [])]), symsL 35 0, some ((.ofNat 0), [(38, (.ofNat 1))]), 0, 0)
noncomputable def c181_2_pts : List PE := [c181_2_p0, c181_2_p1, c181_2_p2]
set_option maxRecDepth 100000 in
theorem c181_2_k : enCtF c181_2 c181_2_e (c181_2_pts ++ []) (none) ((hOr (atPc 37 (fCut 7 (.negSucc 0))) (atPc 69 (fCut 7 (.negSucc 2147483647)))), noM, 137438953472, 590295810496144605184, 35) 3000 = true := by decide +kernel
set_option maxRecDepth 100000 in
theorem c181_2_k0 : ptCtF c181_2 c181_2_e (c181_2_pts ++ []) ((hOr (atPc 37 (fCut 7 (.negSucc 0))) (atPc 69 (fCut 7 (.negSucc 2147483647)))), noM, 137438953472, 590295810496144605184, 35) 3000 c181_2_p0 = true := by decide +kernel
set_option maxRecDepth 100000 in
theorem c181_2_k1 : ptCtF c181_2 c181_2_e (c181_2_pts ++ []) ((hOr (atPc 37 (fCut 7 (.negSucc 0))) (atPc 69 (fCut 7 (.negSucc 2147483647)))), noM, 137438953472, 590295810496144605184, 35) 3000 c181_2_p1 = true := by decide +kernel
set_option maxRecDepth 100000 in
theorem c181_2_k2 : ptCtF c181_2 c181_2_e (c181_2_pts ++ []) ((hOr (atPc 37 (fCut 7 (.negSucc 0))) (atPc 69 (fCut 7 (.negSucc 2147483647)))), noM, 137438953472, 590295810496144605184, 35) 3000 c181_2_p2 = true := by decide +kernel
set_option maxRecDepth 100000 in
theorem c181_2_v : ValidC PPk c181_2 := ct_ok fpk ⟨(hOr_ok (atPc_ok (fCut_ok 7 (.negSucc 0))) (atPc_ok (fCut_ok 7 (.negSucc 2147483647)))), noM_ok⟩ (d := 2) (ext := []) (pts := c181_2_pts) (env := c181_2_e) rfl (List.forall_mem_cons.mpr ⟨⟨c182_2_v, Nat.le_of_ble_eq_true rfl⟩, fun _ h => (by cases h)⟩) ext_nil (fun q h => (by cases h)) (enF c181_2_k) (List.forall_mem_cons.mpr ⟨ptF c181_2_k0, List.forall_mem_cons.mpr ⟨ptF c181_2_k1, List.forall_mem_cons.mpr ⟨ptF c181_2_k2, fun _ h => (by cases h)⟩⟩⟩)

noncomputable def c175_7 : Ct := (175, 1, (33, [(0, (.ofNat 0), (.ofNat 69)), (1, (.ofNat 0), (.ofNat 69)), (2, (.ofNat 0), (.ofNat 8)), (3, (.negSucc 2147483647), (.ofNat 2147483647)), (4, (.negSucc 2147483647), (.ofNat 2147483647)), (5, (.negSucc 2147483647), (.ofNat 2147483647)), (6, (.negSucc 2147483647), (.ofNat 2147483647)), (7, (.negSucc 2147483647), (.ofNat 2147483647)), (8, (.negSucc 2147483647), (.ofNat 2147483647)), (9, (.negSucc 2147483647), (.ofNat 2147483647)), (10, (.ofNat 1), (.ofNat 4)), (11, (.ofNat 0), (.ofNat 60)), (12, (.ofNat 0), (.ofNat 8)), (13, (.ofNat 0), (.ofNat 6)), (14, (.ofNat 0), (.ofNat 8)), (15, (.ofNat 0), (.ofNat 60)), (16, (.ofNat 0), (.ofNat 60)), (17, (.ofNat 0), (.ofNat 10)), (18, (.negSucc 2147483647), (.ofNat 2147483647)), (19, (.ofNat 0), (.ofNat 1)), (20, (.ofNat 0), (.ofNat 1)), (21, (.ofNat 0), (.ofNat 1)), (22, (.ofNat 0), (.ofNat 1))], [((.ofNat 1), [(19, (.negSucc 0)), (20, (.negSucc 0)), (21, (.negSucc 0)), (22, (.negSucc 0))])], [.inr (.inl (some 0)), .inl (false, ((.ofNat 3), [])), .inl (false, ((.ofNat 16), []))], [zc635,
    zc636,
    zc56,
    zc637,
    zc97,
    zc59,
    zc60,
    .inr (1, .inr (.inl 70)),
    .inr (1, .inr (.inl 8)),
    zc61,
    zc62,
    zc63,
    zc30,
    zc31,
    .inr (1, .inr (.inl 4))], [(1, [1], []), (2, [1], [])]),
  [((34, [(33, (.negSucc 2147483647), (.ofNat 2147483647))], [], [.inl (false, ((.ofNat 0), [(33, (.ofNat 1))]))], [zc635,
    zc636,
    zc56,
    zc637,
    zc97,
    zc59,
    zc60,
    .inr (1, .inr (.inl 70)),
    .inr (1, .inr (.inl 8)),
    zc61,
    zc62,
    zc63,
    zc30,
    zc31,
    .inr (1, .inr (.inl 4))], [(1, [1], []), (2, [1], [])]), 0, 0)])
noncomputable def c175_7_e : List Ct := []
noncomputable def c175_7_pts : List PE := []
set_option maxRecDepth 100000 in
theorem c175_7_k : enCtF c175_7 c175_7_e (c175_7_pts ++ []) (none) noH 3000 = true := by decide +kernel
set_option maxRecDepth 100000 in
theorem c175_7_v : ValidC PPk c175_7 := ct_ok fpk noH_ok (d := 0) (ext := []) (pts := c175_7_pts) (env := c175_7_e) rfl (fun _ h => (by cases h)) ext_nil (fun q h => (by cases h)) (enF c175_7_k) (fun _ h => (by cases h))

noncomputable def c182_3 : Ct := (182, 2, (34, [(0, (.ofNat 0), (.ofNat 59)), (1, (.ofNat 0), (.ofNat 69)), (2, (.ofNat 0), (.ofNat 69)), (3, (.ofNat 0), (.ofNat 8)), (4, (.negSucc 2147483647), (.ofNat 2147483647)), (5, (.negSucc 2147483647), (.ofNat 2147483647)), (6, (.negSucc 2147483647), (.ofNat 2147483647)), (7, (.negSucc 2147483647), (.ofNat 2147483647)), (8, (.negSucc 2147483647), (.ofNat 2147483647)), (9, (.negSucc 2147483647), (.ofNat 2147483647)), (10, (.negSucc 2147483647), (.ofNat 2147483647)), (11, (.ofNat 1), (.ofNat 4)), (12, (.ofNat 0), (.ofNat 60)), (13, (.ofNat 0), (.ofNat 8)), (14, (.ofNat 0), (.ofNat 6)), (15, (.ofNat 0), (.ofNat 8)), (16, (.ofNat 0), (.ofNat 60)), (17, (.ofNat 0), (.ofNat 60)), (18, (.ofNat 0), (.ofNat 10)), (19, (.negSucc 2147483647), (.ofNat 2147483647)), (20, (.ofNat 0), (.ofNat 1)), (21, (.ofNat 0), (.ofNat 1)), (22, (.ofNat 0), (.ofNat 1)), (23, (.ofNat 0), (.ofNat 1))], [((.ofNat 1), [(20, (.negSucc 0)), (21, (.negSucc 0)), (22, (.negSucc 0)), (23, (.negSucc 0))])], [.inr (.inl (some 0)), .inl (false, ((.ofNat 3), [])), .inl (false, ((.ofNat 0), [(0, (.ofNat 1))]))], [zc620,
    zc621,
    zc57,
    zc622,
    zc59,
    zc60,
    zc61,
    .inr (1, .inr (.inl 70)),
    .inr (1, .inr (.inl 8)),
    zc62,
    zc63,
    zc30,
    zc31,
    zc32,
    .inr (1, .inr (.inl 4))], [(1, [1], []), (2, [1], [])]),
  [((35, [(34, (.negSucc 2147483647), (.ofNat 2147483647))], [], [.inl (false, ((.ofNat 0), [(34, (.ofNat 1))]))], [zc620,
    zc621,
    zc57,
    zc622,
    zc59,
    zc60,
    zc61,
    .inr (1, .inr (.inl 70)),
    .inr (1, .inr (.inl 8)),
    zc62,
    zc63,
    zc30,
    zc31,
    zc32,
    .inr (1, .inr (.inl 4))], [(1, [1], []), (2, [1], [])]), 0, 0)])
noncomputable def c182_3_e : List Ct := [c145_0]
noncomputable def c182_3_pts : List PE := []
set_option maxRecDepth 100000 in
theorem c182_3_k : enCtF c182_3 c182_3_e (c182_3_pts ++ []) (none) ((hOr (atPc 3 (fRec 2)) (atPc 225 (fCut 8 (.negSucc 0)))), noM, 0, 53919893334301279589334030174039261347274288845081144962207220498440, 34) 3000 = true := by decide +kernel
set_option maxRecDepth 100000 in
theorem c182_3_v : ValidC PPk c182_3 := ct_ok fpk ⟨(hOr_ok (atPc_ok (fRec_ok 2)) (atPc_ok (fCut_ok 8 (.negSucc 0)))), noM_ok⟩ (d := 1) (ext := []) (pts := c182_3_pts) (env := c182_3_e) rfl (List.forall_mem_cons.mpr ⟨⟨c145_0_v, Nat.le_of_ble_eq_true rfl⟩, fun _ h => (by cases h)⟩) ext_nil (fun q h => (by cases h)) (enF c182_3_k) (fun _ h => (by cases h))

noncomputable def c181_3 : Ct := (181, 3, (35, [(0, (.ofNat 0), (.ofNat 5)), (1, (.negSucc 0), (.ofNat 40)), (2, (.ofNat 0), (.ofNat 69)), (3, (.ofNat 0), (.ofNat 69)), (4, (.ofNat 0), (.ofNat 8)), (5, (.negSucc 2147483647), (.ofNat 2147483647)), (6, (.negSucc 2147483647), (.ofNat 2147483647)), (7, (.negSucc 2147483647), (.ofNat 2147483647)), (8, (.negSucc 2147483647), (.ofNat 2147483647)), (9, (.negSucc 2147483647), (.ofNat 2147483647)), (10, (.negSucc 2147483647), (.ofNat 2147483647)), (11, (.negSucc 2147483647), (.ofNat 2147483647)), (12, (.ofNat 1), (.ofNat 4)), (13, (.ofNat 0), (.ofNat 60)), (14, (.ofNat 0), (.ofNat 8)), (15, (.ofNat 0), (.ofNat 6)), (16, (.ofNat 0), (.ofNat 8)), (17, (.ofNat 0), (.ofNat 60)), (18, (.ofNat 0), (.ofNat 60)), (19, (.ofNat 0), (.ofNat 10)), (20, (.negSucc 2147483647), (.ofNat 2147483647)), (21, (.ofNat 0), (.ofNat 1)), (22, (.ofNat 0), (.ofNat 1)), (23, (.ofNat 0), (.ofNat 1)), (24, (.ofNat 0), (.ofNat 1))], [((.ofNat 1), [(21, (.negSucc 0)), (22, (.negSucc 0)), (23, (.negSucc 0)), (24, (.negSucc 0))])], [.inr (.inl (some 0)), .inl (false, ((.ofNat 3), [])), .inl (false, ((.ofNat 0), [(0, (.ofNat 1))])), .inl (false, ((.ofNat 0), [(1, (.ofNat 1))]))], [zc638,
    zc639,
    zc97,
    zc640,
    zc60,
    zc61,
    zc62,
    .inr (1, .inr (.inl 70)),
    .inr (1, .inr (.inl 8)),
    zc63,
    zc30,
    zc31,
    zc32,
    zc33,
    .inr (1, .inr (.inl 4))], [(1, [1], []), (2, [1], [])]),
  [((36, [(35, (.ofNat 0), (.ofNat 1))], [], [.inl (false, ((.ofNat 0), [(35, (.ofNat 1))]))], [zc638,
    zc639,
    zc97,
    zc640,
    zc60,
    zc61,
    zc62,
    .inr (1, .inr (.inl 70)),
    .inr (1, .inr (.inl 8)),
    zc63,
    zc30,
    zc31,
    zc32,
    zc33,
    .inr (1, .inr (.inl 4))], [(1, [1], []), (2, [1], [])]), 0, 0)])
noncomputable def c181_3_e : List Ct := [c182_3]
noncomputable def c181_3_p0 : PE := (37, [0, 1, 2, 3, 4, 5, 6, 7], (37, [(0, (.ofNat 0), (.ofNat 5)), (1, (.negSucc 0), (.ofNat 40)), (2, (.ofNat 0), (.ofNat 69)), (3, (.ofNat 0), (.ofNat 69)), (4, (.ofNat 0), (.ofNat 8)), (5, (.negSucc 2147483647), (.ofNat 2147483647)), (6, (.negSucc 2147483647), (.ofNat 2147483647)), (7, (.negSucc 2147483647), (.ofNat 2147483647)), (8, (.negSucc 2147483647), (.ofNat 2147483647)), (9, (.negSucc 2147483647), (.ofNat 2147483647)), (10, (.negSucc 2147483647), (.ofNat 2147483647)), (11, (.negSucc 2147483647), (.ofNat 2147483647)), (12, (.ofNat 1), (.ofNat 4)), (13, (.ofNat 0), (.ofNat 60)), (14, (.ofNat 0), (.ofNat 8)), (15, (.ofNat 0), (.ofNat 6)), (16, (.ofNat 0), (.ofNat 8)), (17, (.ofNat 0), (.ofNat 60)), (18, (.ofNat 0), (.ofNat 60)), (19, (.ofNat 0), (.ofNat 10)), (20, (.negSucc 2147483647), (.ofNat 2147483647)), (21, (.ofNat 0), (.ofNat 1)), (22, (.ofNat 0), (.ofNat 1)), (23, (.ofNat 0), (.ofNat 1)), (24, (.ofNat 0), (.ofNat 1)), (35, (.ofNat 0), (.ofNat 60)), (36, (.ofNat 0), (.ofNat 60))], [((.ofNat 1), [(21, (.negSucc 0)), (22, (.negSucc 0)), (23, (.negSucc 0)), (24, (.negSucc 0))])], [.inr (.inl (some 0)), .inl (false, ((.ofNat 3), [])), .inl (false, ((.ofNat 0), [(0, (.ofNat 1))])), .inl (false, ((.ofNat 0), [(1, (.ofNat 1))])), .inl (false, ((.ofNat 0), [(35, (.ofNat 1))])), .inl (false, ((.ofNat 0), [(36, (.ofNat 1))])), .inl (false, ((.ofNat 0), [(35, (.ofNat 1))])), .inl (false, ((.ofNat 0), [(1, (.ofNat 1))]))], [zc638,
    zc639,
    zc97,
    zc640,
    zc60,
    zc61,
    zc62,
    .inr (1, .inr (.inl 70)),
    .inr (1, .inr (.inl 8)),
    zc63,
    zc30,
    zc31,
    zc32,
    zc33,
    .inr (1, .inr (.inl 4))], [(1, [1], []), (2, [1], [])]), symsL 35 0, some ((.ofNat 34359738368), []), 0, 0)
noncomputable def c181_3_p1 : PE := (37, [0, 1, 2, 3, 4, 5, 6, 7, 8], (39, [(0, (.ofNat 0), (.ofNat 5)), (1, (.negSucc 0), (.negSucc 0)), (2, (.ofNat 0), (.ofNat 69)), (3, (.ofNat 0), (.ofNat 69)), (4, (.ofNat 0), (.ofNat 8)), (5, (.negSucc 2147483647), (.ofNat 2147483647)), (6, (.negSucc 2147483647), (.ofNat 2147483647)), (7, (.negSucc 2147483647), (.ofNat 2147483647)), (8, (.negSucc 2147483647), (.ofNat 2147483647)), (9, (.negSucc 2147483647), (.ofNat 2147483647)), (10, (.negSucc 2147483647), (.ofNat 2147483647)), (11, (.negSucc 2147483647), (.ofNat 2147483647)), (12, (.ofNat 1), (.ofNat 4)), (13, (.ofNat 1), (.ofNat 60)), (14, (.ofNat 0), (.ofNat 8)), (15, (.ofNat 0), (.ofNat 6)), (16, (.ofNat 0), (.ofNat 8)), (17, (.ofNat 0), (.ofNat 60)), (18, (.ofNat 0), (.ofNat 60)), (19, (.ofNat 0), (.ofNat 10)), (20, (.negSucc 2147483647), (.ofNat 2147483647)), (21, (.ofNat 0), (.ofNat 1)), (22, (.ofNat 0), (.ofNat 1)), (23, (.ofNat 0), (.ofNat 1)), (24, (.ofNat 0), (.ofNat 1)), (35, (.ofNat 0), (.ofNat 59)), (36, (.ofNat 1), (.ofNat 60)), (37, (.negSucc 2147483647), (.ofNat 2147483647)), (38, (.negSucc 2147483647), (.negSucc 1))], [((.ofNat 1), [(21, (.negSucc 0)), (22, (.negSucc 0)), (23, (.negSucc 0)), (24, (.negSucc 0))])], [.inr (.inl (some 0)), .inl (false, ((.ofNat 3), [])), .inl (false, ((.ofNat 0), [(0, (.ofNat 1))])), .inl (false, ((.ofNat 0), [(1, (.ofNat 1))])), .inl (false, ((.ofNat 0), [(35, (.ofNat 1))])), .inl (false, ((.ofNat 0), [(36, (.ofNat 1))])), .inl (false, ((.ofNat 0), [(37, (.ofNat 1))])), .inl (false, ((.ofNat 0), [(38, (.ofNat 1))])), .inl (false, ((.ofNat 0), [(37, (.ofNat 1))]))], [zc638,
    zc639,
    zc97,
    zc640,
    zc60,
    zc61,
    zc62,
    .inr (1, .inr (.inl 70)),
    .inr (1, .inr (.inl 8)),
    zc63,
    zc30,
    zc31,
    zc32,
    zc33,
    .inr (1, .inr (.inl 4))], [(1, [1], []), (2, [1], [])]), symsL 35 0, some ((.ofNat 8589934592), [(38, (.ofNat 1))]), 0, 0)
noncomputable def c181_3_p2 : PE := (37, [0, 1, 2, 3, 4, 5, 6, 7, 8], (39, [(0, (.ofNat 0), (.ofNat 5)), (1, (.negSucc 0), (.ofNat 40)), (2, (.ofNat 0), (.ofNat 69)), (3, (.ofNat 0), (.ofNat 69)), (4, (.ofNat 0), (.ofNat 8)), (5, (.negSucc 2147483647), (.ofNat 2147483647)), (6, (.negSucc 2147483647), (.ofNat 2147483647)), (7, (.negSucc 2147483647), (.ofNat 2147483647)), (8, (.negSucc 2147483647), (.ofNat 2147483647)), (9, (.negSucc 2147483647), (.ofNat 2147483647)), (10, (.negSucc 2147483647), (.ofNat 2147483647)), (11, (.negSucc 2147483647), (.ofNat 2147483647)), (12, (.ofNat 1), (.ofNat 4)), (13, (.ofNat 1), (.ofNat 60)), (14, (.ofNat 0), (.ofNat 8)), (15, (.ofNat 0), (.ofNat 6)), (16, (.ofNat 0), (.ofNat 8)), (17, (.ofNat 0), (.ofNat 60)), (18, (.ofNat 0), (.ofNat 60)), (19, (.ofNat 0), (.ofNat 10)), (20, (.negSucc 2147483647), (.ofNat 2147483647)), (21, (.ofNat 0), (.ofNat 1)), (22, (.ofNat 0), (.ofNat 1)), (23, (.ofNat 0), (.ofNat 1)), (24, (.ofNat 0), (.ofNat 1)), (35, (.ofNat 0), (.ofNat 59)), (36, (.ofNat 1), (.ofNat 60)), (37, (.negSucc 2147483647), (.ofNat 2147483647)), (38, (.ofNat 0), (.ofNat 2147483647))], [((.ofNat 1), [(21, (.negSucc 0)), (22, (.negSucc 0)), (23, (.negSucc 0)), (24, (.negSucc 0))])], [.inr (.inl (some 0)), .inl (false, ((.ofNat 3), [])), .inl (false, ((.ofNat 0), [(0, (.ofNat 1))])), .inl (false, ((.ofNat 0), [(1, (.ofNat 1))])), .inl (false, ((.ofNat 0), [(35, (.ofNat 1))])), .inl (false, ((.ofNat 0), [(36, (.ofNat 1))])), .inl (false, ((.ofNat 0), [(37, (.ofNat 1))])), .inl (false, ((.ofNat 0), [(38, (.ofNat 1))])), .inl (false, ((.ofNat 0), [(37, (.ofNat 1))]))], [zc638,
    zc639,
    zc97,
    zc640,
    zc60,
    zc61,
    zc62,
    .inr (1, .inr (.inl 70)),
    .inr (1, .inr (.inl 8)),
    zc63,
    zc30,
    zc31,
    zc32,
    zc33,
    .inr (1, .inr (.inl 4))], [(1, [1], []), (2, [1], [])]), symsL 35 0, some ((.ofNat 0), [(38, (.ofNat 1))]), 0, 0)
noncomputable def c181_3_pts : List PE := [c181_3_p0, c181_3_p1, c181_3_p2]
set_option maxRecDepth 100000 in
theorem c181_3_k : enCtF c181_3 c181_3_e (c181_3_pts ++ []) (none) ((hOr (atPc 37 (fCut 7 (.negSucc 0))) (atPc 69 (fCut 7 (.negSucc 2147483647)))), noM, 137438953472, 590295810496144605184, 35) 3000 = true := by decide +kernel
set_option maxRecDepth 100000 in
theorem c181_3_k0 : ptCtF c181_3 c181_3_e (c181_3_pts ++ []) ((hOr (atPc 37 (fCut 7 (.negSucc 0))) (atPc 69 (fCut 7 (.negSucc 2147483647)))), noM, 137438953472, 590295810496144605184, 35) 3000 c181_3_p0 = true := by decide +kernel
set_option maxRecDepth 100000 in
theorem c181_3_k1 : ptCtF c181_3 c181_3_e (c181_3_pts ++ []) ((hOr (atPc 37 (fCut 7 (.negSucc 0))) (atPc 69 (fCut 7 (.negSucc 2147483647)))), noM, 137438953472, 590295810496144605184, 35) 3000 c181_3_p1 = true := by decide +kernel
set_option maxRecDepth 100000 in
theorem c181_3_k2 : ptCtF c181_3 c181_3_e (c181_3_pts ++ []) ((hOr (atPc 37 (fCut 7 (.negSucc 0))) (atPc 69 (fCut 7 (.negSucc 2147483647)))), noM, 137438953472, 590295810496144605184, 35) 3000 c181_3_p2 = true := by decide +kernel
set_option maxRecDepth 100000 in
theorem c181_3_v : ValidC PPk c181_3 := ct_ok fpk ⟨(hOr_ok (atPc_ok (fCut_ok 7 (.negSucc 0))) (atPc_ok (fCut_ok 7 (.negSucc 2147483647)))), noM_ok⟩ (d := 2) (ext := []) (pts := c181_3_pts) (env := c181_3_e) rfl (List.forall_mem_cons.mpr ⟨⟨c182_3_v, Nat.le_of_ble_eq_true rfl⟩, fun _ h => (by cases h)⟩) ext_nil (fun q h => (by cases h)) (enF c181_3_k) (List.forall_mem_cons.mpr ⟨ptF c181_3_k0, List.forall_mem_cons.mpr ⟨ptF c181_3_k1, List.forall_mem_cons.mpr ⟨ptF c181_3_k2, fun _ h => (by cases h)⟩⟩⟩)
