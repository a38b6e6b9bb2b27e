/-! ===== contracts, written by wip/vse2/emitgen.py ===== -/
noncomputable def c37_2 : Ct := (37, 22, (4, [(0, (.ofNat 0), (.ofNat 60)), (1, (.negSucc 2147483647), (.ofNat 2147483647)), (2, (.ofNat 0), (.ofNat 60)), (3, (.ofNat 0), (.ofNat 60))], [], [.inr (.inl (some 0)), .inl (false, ((.ofNat 6), []))], [zc191,
    zc192,
    zc89,
    .inr (1, .inr (.inl 60))], []),
  [((7, [(4, (.negSucc 2147483647), (.ofNat 2147483647)), (5, (.ofNat 0), (.ofNat 60)), (6, (.ofNat 0), (.ofNat 60))], [], [], [zc200,
    zc192,
    zc89,
    .inr (1, .inr (.inl 60))], []), 0, 0)])
noncomputable def c37_2_e : List Ct := [c38_2, c40_0, c44_0]
noncomputable def c37_2_p0 : PE := (7, [0, 1, 2], (7, [(0, (.ofNat 0), (.ofNat 60)), (1, (.negSucc 2147483647), (.ofNat 2147483647)), (2, (.ofNat 0), (.ofNat 60)), (3, (.ofNat 0), (.ofNat 60)), (4, (.negSucc 2147483647), (.ofNat 2147483647)), (5, (.ofNat 0), (.ofNat 60)), (6, (.ofNat 0), (.ofNat 60))], [], [.inr (.inl (some 0)), .inl (false, ((.ofNat 6), [])), .inl (false, ((.ofNat 0), []))], [zc200,
    zc192,
    zc89,
    .inr (1, .inr (.inl 60))], []), symsL 4 0, some ((.ofNat 121), []), 0, 0)
noncomputable def c37_2_p1 : PE := (7, [0, 1, 2, 3], (9, [(0, (.ofNat 1), (.ofNat 60)), (1, (.negSucc 2147483647), (.ofNat 2147483647)), (2, (.ofNat 0), (.ofNat 60)), (3, (.ofNat 0), (.ofNat 60)), (4, (.ofNat 1), (.ofNat 60)), (5, (.ofNat 43), (.ofNat 45)), (6, (.negSucc 2147483647), (.ofNat 2147483647)), (7, (.ofNat 0), (.ofNat 60)), (8, (.ofNat 1), (.ofNat 60))], [], [.inr (.inl (some 0)), .inl (false, ((.ofNat 6), [])), .inl (false, ((.ofNat 0), [(4, (.ofNat 1))])), .inl (false, ((.ofNat 0), [(5, (.ofNat 1))]))], [zc203,
    zc192,
    zc89,
    .inr (1, .inr (.inl 60))], []), symsL 4 0, some ((.ofNat 121), [(4, (.negSucc 0))]), 0, 0)
noncomputable def c37_2_pts : List PE := [c37_2_p0, c37_2_p1]
set_option maxRecDepth 100000 in
theorem c37_2_k : enCtF c37_2 c37_2_e (c37_2_pts ++ []) (none) (noF, noM, 128, 0, 4) 3000 = true := by decide +kernel
set_option maxRecDepth 100000 in
theorem c37_2_k0 : ptCtF c37_2 c37_2_e (c37_2_pts ++ []) (noF, noM, 128, 0, 4) 3000 c37_2_p0 = true := by decide +kernel
set_option maxRecDepth 100000 in
theorem c37_2_k1 : ptCtF c37_2 c37_2_e (c37_2_pts ++ []) (noF, noM, 128, 0, 4) 3000 c37_2_p1 = true := by decide +kernel
set_option maxRecDepth 100000 in
theorem c37_2_v : ValidC PPk c37_2 := ct_ok fpk ⟨noF_ok, noM_ok⟩ (d := 21) (ext := []) (pts := c37_2_pts) (env := c37_2_e) rfl (List.forall_mem_cons.mpr ⟨⟨c38_2_v, Nat.le_of_ble_eq_true rfl⟩, List.forall_mem_cons.mpr ⟨⟨c40_0_v, Nat.le_of_ble_eq_true rfl⟩, List.forall_mem_cons.mpr ⟨⟨c44_0_v, Nat.le_of_ble_eq_true rfl⟩, fun _ h => (by cases h)⟩⟩⟩) ext_nil (fun q h => (by cases h)) (enF c37_2_k) (List.forall_mem_cons.mpr ⟨ptF c37_2_k0, List.forall_mem_cons.mpr ⟨ptF c37_2_k1, fun _ h => (by cases h)⟩⟩)

noncomputable def c36_2 : Ct := (36, 23, (4, [(0, (.ofNat 0), (.ofNat 60)), (1, (.negSucc 2147483647), (.ofNat 2147483647)), (2, (.ofNat 0), (.ofNat 60)), (3, (.ofNat 0), (.ofNat 60))], [], [.inr (.inl (some 0)), .inl (false, ((.ofNat 6), []))], [zc191,
    zc192,
    zc89,
    .inr (1, .inr (.inl 60))], []),
  [((7, [(4, (.negSucc 2147483647), (.ofNat 2147483647)), (5, (.ofNat 0), (.ofNat 60)), (6, (.ofNat 0), (.ofNat 60))], [], [], [zc200,
    zc192,
    zc89,
    .inr (1, .inr (.inl 60))], []), 0, 0)])
noncomputable def c36_2_e : List Ct := [c37_2, c40_0, c44_0]
noncomputable def c36_2_pts : List PE := []
set_option maxRecDepth 100000 in
theorem c36_2_k : enCtF c36_2 c36_2_e (c36_2_pts ++ []) (none) noH 3000 = true := by decide +kernel
set_option maxRecDepth 100000 in
theorem c36_2_v : ValidC PPk c36_2 := ct_ok fpk noH_ok (d := 22) (ext := []) (pts := c36_2_pts) (env := c36_2_e) rfl (List.forall_mem_cons.mpr ⟨⟨c37_2_v, Nat.le_of_ble_eq_true rfl⟩, List.forall_mem_cons.mpr ⟨⟨c40_0_v, Nat.le_of_ble_eq_true rfl⟩, List.forall_mem_cons.mpr ⟨⟨c44_0_v, Nat.le_of_ble_eq_true rfl⟩, fun _ h => (by cases h)⟩⟩⟩) ext_nil (fun q h => (by cases h)) (enF c36_2_k) (fun _ h => (by cases h))

noncomputable def c35_2 : Ct := (35, 24, (4, [(0, (.ofNat 0), (.ofNat 60)), (1, (.negSucc 2147483647), (.ofNat 2147483647)), (2, (.ofNat 0), (.ofNat 60)), (3, (.ofNat 0), (.ofNat 60))], [], [.inr (.inl (some 0)), .inl (false, ((.ofNat 6), []))], [zc191,
    zc192,
    zc89,
    .inr (1, .inr (.inl 60))], []),
  [((7, [(4, (.negSucc 2147483647), (.ofNat 2147483647)), (5, (.ofNat 0), (.ofNat 60)), (6, (.ofNat 0), (.ofNat 60))], [], [], [zc200,
    zc192,
    zc89,
    .inr (1, .inr (.inl 60))], []), 0, 0)])
noncomputable def c35_2_e : List Ct := [c36_2, c40_0, c44_0]
noncomputable def c35_2_p0 : PE := (7, [0, 1, 2], (8, [(0, (.ofNat 0), (.ofNat 60)), (1, (.negSucc 2147483647), (.ofNat 2147483647)), (2, (.ofNat 0), (.ofNat 60)), (3, (.ofNat 0), (.ofNat 60)), (4, (.ofNat 0), (.ofNat 60)), (5, (.negSucc 2147483647), (.ofNat 2147483647)), (6, (.ofNat 0), (.ofNat 60)), (7, (.ofNat 0), (.ofNat 60))], [], [.inr (.inl (some 0)), .inl (false, ((.ofNat 6), [])), .inl (false, ((.ofNat 0), [(4, (.ofNat 1))]))], [zc204,
    zc192,
    zc89,
    .inr (1, .inr (.inl 60))], []), symsL 4 0, some ((.ofNat 121), [(4, (.negSucc 0))]), 0, 0)
noncomputable def c35_2_pts : List PE := [c35_2_p0]
set_option maxRecDepth 100000 in
theorem c35_2_k : enCtF c35_2 c35_2_e (c35_2_pts ++ []) (none) (noF, noM, 128, 0, 4) 3000 = true := by decide +kernel
set_option maxRecDepth 100000 in
theorem c35_2_k0 : ptCtF c35_2 c35_2_e (c35_2_pts ++ []) (noF, noM, 128, 0, 4) 3000 c35_2_p0 = true := by decide +kernel
set_option maxRecDepth 100000 in
theorem c35_2_v : ValidC PPk c35_2 := ct_ok fpk ⟨noF_ok, noM_ok⟩ (d := 23) (ext := []) (pts := c35_2_pts) (env := c35_2_e) rfl (List.forall_mem_cons.mpr ⟨⟨c36_2_v, Nat.le_of_ble_eq_true rfl⟩, List.forall_mem_cons.mpr ⟨⟨c40_0_v, Nat.le_of_ble_eq_true rfl⟩, List.forall_mem_cons.mpr ⟨⟨c44_0_v, Nat.le_of_ble_eq_true rfl⟩, fun _ h => (by cases h)⟩⟩⟩) ext_nil (fun q h => (by cases h)) (enF c35_2_k) (List.forall_mem_cons.mpr ⟨ptF c35_2_k0, fun _ h => (by cases h)⟩)

noncomputable def c34_2 : Ct := (34, 25, (4, [(0, (.ofNat 0), (.ofNat 60)), (1, (.negSucc 2147483647), (.ofNat 2147483647)), (2, (.ofNat 0), (.ofNat 60)), (3, (.ofNat 0), (.ofNat 60))], [], [.inr (.inl (some 0)), .inl (false, ((.ofNat 6), []))], [zc191,
    zc192,
    zc89,
    .inr (1, .inr (.inl 60))], []),
  [((7, [(4, (.negSucc 2147483647), (.ofNat 2147483647)), (5, (.ofNat 0), (.ofNat 60)), (6, (.ofNat 0), (.ofNat 60))], [], [], [zc200,
    zc192,
    zc89,
    .inr (1, .inr (.inl 60))], []), 0, 0)])
noncomputable def c34_2_e : List Ct := [c35_2, c40_0, c44_0]
noncomputable def c34_2_p0 : PE := (7, [0, 1, 2], (8, [(0, (.ofNat 0), (.ofNat 60)), (1, (.negSucc 2147483647), (.ofNat 2147483647)), (2, (.ofNat 0), (.ofNat 60)), (3, (.ofNat 0), (.ofNat 60)), (4, (.ofNat 0), (.ofNat 60)), (5, (.negSucc 2147483647), (.ofNat 2147483647)), (6, (.ofNat 0), (.ofNat 60)), (7, (.ofNat 0), (.ofNat 60))], [], [.inr (.inl (some 0)), .inl (false, ((.ofNat 6), [])), .inl (false, ((.ofNat 0), [(4, (.ofNat 1))]))], [zc204,
    zc192,
    zc89,
    .inr (1, .inr (.inl 60))], []), symsL 4 0, some ((.ofNat 121), [(4, (.negSucc 0))]), 0, 0)
noncomputable def c34_2_pts : List PE := [c34_2_p0]
set_option maxRecDepth 100000 in
theorem c34_2_k : enCtF c34_2 c34_2_e (c34_2_pts ++ []) (none) (noF, noM, 128, 0, 4) 3000 = true := by decide +kernel
set_option maxRecDepth 100000 in
theorem c34_2_k0 : ptCtF c34_2 c34_2_e (c34_2_pts ++ []) (noF, noM, 128, 0, 4) 3000 c34_2_p0 = true := by decide +kernel
set_option maxRecDepth 100000 in
theorem c34_2_v : ValidC PPk c34_2 := ct_ok fpk ⟨noF_ok, noM_ok⟩ (d := 24) (ext := []) (pts := c34_2_pts) (env := c34_2_e) rfl (List.forall_mem_cons.mpr ⟨⟨c35_2_v, Nat.le_of_ble_eq_true rfl⟩, List.forall_mem_cons.mpr ⟨⟨c40_0_v, Nat.le_of_ble_eq_true rfl⟩, List.forall_mem_cons.mpr ⟨⟨c44_0_v, Nat.le_of_ble_eq_true rfl⟩, fun _ h => (by cases h)⟩⟩⟩) ext_nil (fun q h => (by cases h)) (enF c34_2_k) (List.forall_mem_cons.mpr ⟨ptF c34_2_k0, fun _ h => (by cases h)⟩)

noncomputable def c45_3 : Ct := (45, 26, (4, [(0, (.ofNat 0), (.ofNat 60)), (1, (.negSucc 2147483647), (.ofNat 2147483647)), (2, (.ofNat 0), (.ofNat 60)), (3, (.ofNat 0), (.ofNat 60))], [((.ofNat 1), [(0, (.negSucc 0)), (2, (.ofNat 1))])], [.inr (.inl (some 0)), .inl (false, ((.ofNat 5), []))], [zc191,
    zc192,
    zc89,
    .inr (1, .inr (.inl 60))], []),
  [((7, [(4, (.negSucc 2147483647), (.ofNat 2147483647)), (5, (.ofNat 0), (.ofNat 60)), (6, (.ofNat 0), (.ofNat 60))], [], [], [zc200,
    zc192,
    zc89,
    .inr (1, .inr (.inl 60))], []), 0, 0)])
noncomputable def c45_3_e : List Ct := [c34_2, c40_0, c43_0]
noncomputable def c45_3_pts : List PE := []
set_option maxRecDepth 100000 in
theorem c45_3_k : enCtF c45_3 c45_3_e (c45_3_pts ++ []) (none) noH 3000 = true := by decide +kernel
set_option maxRecDepth 100000 in
theorem c45_3_v : ValidC PPk c45_3 := ct_ok fpk noH_ok (d := 25) (ext := []) (pts := c45_3_pts) (env := c45_3_e) rfl (List.forall_mem_cons.mpr ⟨⟨c34_2_v, Nat.le_of_ble_eq_true rfl⟩, List.forall_mem_cons.mpr ⟨⟨c40_0_v, Nat.le_of_ble_eq_true rfl⟩, List.forall_mem_cons.mpr ⟨⟨c43_0_v, Nat.le_of_ble_eq_true rfl⟩, fun _ h => (by cases h)⟩⟩⟩) ext_nil (fun q h => (by cases h)) (enF c45_3_k) (fun _ h => (by cases h))

noncomputable def c41_6 : Ct := (41, 27, (5, [(0, (.negSucc 2147483647), (.ofNat 2147483647)), (1, (.ofNat 0), (.ofNat 60)), (2, (.negSucc 2147483647), (.ofNat 2147483647)), (3, (.ofNat 0), (.ofNat 60)), (4, (.ofNat 0), (.ofNat 60))], [((.ofNat 1), [(1, (.negSucc 0)), (3, (.ofNat 1))])], [.inr (.inl (some 0)), .inl (false, ((.ofNat 0), [(0, (.ofNat 1))])), .inl (false, ((.ofNat 5), []))], [zc198,
    zc192,
    zc89,
    .inr (1, .inr (.inl 60))], []),
  [((8, [(5, (.negSucc 2147483647), (.ofNat 2147483647)), (6, (.ofNat 0), (.ofNat 60)), (7, (.ofNat 0), (.ofNat 60))], [], [], [zc201,
    zc192,
    zc89,
    .inr (1, .inr (.inl 60))], []), 0, 0)])
noncomputable def c41_6_e : List Ct := [c42_0, c43_0, c44_0, c45_3]
noncomputable def c41_6_pts : List PE := []
set_option maxRecDepth 100000 in
theorem c41_6_k : enCtF c41_6 c41_6_e (c41_6_pts ++ []) (none) noH 3000 = true := by decide +kernel
set_option maxRecDepth 100000 in
theorem c41_6_v : ValidC PPk c41_6 := ct_ok fpk noH_ok (d := 26) (ext := []) (pts := c41_6_pts) (env := c41_6_e) rfl (List.forall_mem_cons.mpr ⟨⟨c42_0_v, Nat.le_of_ble_eq_true rfl⟩, List.forall_mem_cons.mpr ⟨⟨c43_0_v, Nat.le_of_ble_eq_true rfl⟩, List.forall_mem_cons.mpr ⟨⟨c44_0_v, Nat.le_of_ble_eq_true rfl⟩, List.forall_mem_cons.mpr ⟨⟨c45_3_v, Nat.le_of_ble_eq_true rfl⟩, fun _ h => (by cases h)⟩⟩⟩⟩) ext_nil (fun q h => (by cases h)) (enF c41_6_k) (fun _ h => (by cases h))

noncomputable def c41_7 : Ct := (41, 2, (6, [(0, (.ofNat 0), (.ofNat 60)), (1, (.negSucc 2147483647), (.ofNat 2147483647)), (2, (.ofNat 0), (.ofNat 60)), (3, (.ofNat 0), (.ofNat 60))], [], [.inr (.inl (some 0)), .inl (false, ((.negSucc 0), [])), .inl (false, ((.ofNat 5), []))], [zc191,
    zc196,
    zc133,
    .inr (1, .inr (.inl 60))], []),
  [((7, [(6, (.negSucc 2147483647), (.ofNat 2147483647))], [], [], [zc197,
    zc196,
    zc133,
    .inr (1, .inr (.inl 60))], []), 0, 0)])
noncomputable def c41_7_e : List Ct := [c43_0]
noncomputable def c41_7_pts : List PE := []
set_option maxRecDepth 100000 in
theorem c41_7_k : enCtF c41_7 c41_7_e (c41_7_pts ++ []) (none) noH 3000 = true := by decide +kernel
set_option maxRecDepth 100000 in
theorem c41_7_v : ValidC PPk c41_7 := ct_ok fpk noH_ok (d := 1) (ext := []) (pts := c41_7_pts) (env := c41_7_e) rfl (List.forall_mem_cons.mpr ⟨⟨c43_0_v, Nat.le_of_ble_eq_true rfl⟩, fun _ h => (by cases h)⟩) ext_nil (fun q h => (by cases h)) (enF c41_7_k) (fun _ h => (by cases h))

noncomputable def c39_3 : Ct := (39, 28, (4, [(0, (.ofNat 0), (.ofNat 60)), (1, (.negSucc 2147483647), (.ofNat 2147483647)), (2, (.ofNat 0), (.ofNat 60)), (3, (.ofNat 0), (.ofNat 60))], [], [.inr (.inl (some 0)), .inl (false, ((.ofNat 5), []))], [zc191,
    zc192,
    zc89,
    .inr (1, .inr (.inl 60))], []),
  [((7, [(4, (.negSucc 2147483647), (.ofNat 2147483647)), (5, (.ofNat 0), (.ofNat 60)), (6, (.ofNat 0), (.ofNat 60))], [], [], [zc200,
    zc192,
    zc89,
    .inr (1, .inr (.inl 60))], []), 0, 0)])
noncomputable def c39_3_e : List Ct := [c40_0, c41_6, c41_7, c44_0]
noncomputable def c39_3_p0 : PE := (13, [0, 1, 2, 3, 4], (7, [(0, (.ofNat 1), (.ofNat 60)), (1, (.negSucc 0), (.negSucc 0)), (2, (.ofNat 0), (.ofNat 60)), (3, (.ofNat 0), (.ofNat 60)), (4, (.ofNat 0), (.ofNat 127)), (5, (.ofNat 0), (.ofNat 60)), (6, (.ofNat 0), (.ofNat 59))], [((.ofNat 1), [(0, (.negSucc 0)), (6, (.ofNat 1))])], [.inr (.inl (some 0)), .inl (false, ((.ofNat 5), [])), .inl (false, ((.ofNat 0), [(2, (.ofNat 1))])), .inl (false, ((.ofNat 0), [(4, (.ofNat 1))])), .inl (false, ((.ofNat 0), [(5, (.ofNat 1))]))], [zc194,
    zc192,
    zc89,
    .inr (1, .inr (.inl 60))], []), symsL 4 0, some ((.ofNat 182), [(5, (.negSucc 0))]), 0, 0)
noncomputable def c39_3_p1 : PE := (13, [0, 1, 2, 3, 4], (6, [(0, (.ofNat 0), (.ofNat 60)), (1, (.negSucc 2147483647), (.ofNat 2147483647)), (2, (.ofNat 0), (.ofNat 60)), (3, (.ofNat 0), (.ofNat 60)), (4, (.ofNat 0), (.ofNat 60)), (5, (.ofNat 0), (.ofNat 60))], [], [.inr (.inl (some 0)), .inl (false, ((.ofNat 5), [])), .inl (false, ((.ofNat 0), [(2, (.ofNat 1))])), .inl (false, ((.negSucc 0), [])), .inl (false, ((.ofNat 0), [(4, (.ofNat 1))]))], [zc193,
    zc192,
    zc89,
    .inr (1, .inr (.inl 60))], []), symsL 4 0, some ((.ofNat 182), [(4, (.negSucc 0))]), 0, 0)
noncomputable def c39_3_p2 : PE := (71, [0, 1, 2, 3, 4, 5], (10, [(0, (.ofNat 0), (.ofNat 60)), (1, (.negSucc 2147483647), (.ofNat 2147483647)), (2, (.ofNat 0), (.ofNat 60)), (3, (.ofNat 0), (.ofNat 60)), (4, (.negSucc 0), (.ofNat 127)), (5, (.ofNat 0), (.ofNat 60)), (6, (.negSucc 0), (.ofNat 59)), (7, (.negSucc 2147483647), (.ofNat 2147483647)), (8, (.ofNat 0), (.ofNat 60)), (9, (.ofNat 0), (.ofNat 60))], [], [.inr (.inl (some 0)), .inl (false, ((.ofNat 5), [])), .inl (false, ((.ofNat 0), [(2, (.ofNat 1))])), .inl (false, ((.ofNat 0), [(4, (.ofNat 1))])), .inl (false, ((.ofNat 0), [(5, (.ofNat 1))])), .inl (false, ((.ofNat 0), [(6, (.ofNat 1))]))], [zc202,
    zc192,
    zc89,
    .inr (1, .inr (.inl 60))], []), symsL 4 0, some ((.ofNat 62), [(6, (.ofNat 1))]), 0, 0)
noncomputable def c39_3_pts : List PE := [c39_3_p0, c39_3_p1, c39_3_p2]
set_option maxRecDepth 100000 in
theorem c39_3_k : enCtF c39_3 c39_3_e (c39_3_pts ++ []) (none) (noF, noM, 2361183241434822615040, 0, 4) 3000 = true := by decide +kernel
set_option maxRecDepth 100000 in
theorem c39_3_k0 : ptCtF c39_3 c39_3_e (c39_3_pts ++ []) (noF, noM, 2361183241434822615040, 0, 4) 3000 c39_3_p0 = true := by decide +kernel
set_option maxRecDepth 100000 in
theorem c39_3_k1 : ptCtF c39_3 c39_3_e (c39_3_pts ++ []) (noF, noM, 2361183241434822615040, 0, 4) 3000 c39_3_p1 = true := by decide +kernel
set_option maxRecDepth 100000 in
theorem c39_3_k2 : ptCtF c39_3 c39_3_e (c39_3_pts ++ []) (noF, noM, 2361183241434822615040, 0, 4) 3000 c39_3_p2 = true := by decide +kernel
set_option maxRecDepth 100000 in
theorem c39_3_v : ValidC PPk c39_3 := ct_ok fpk ⟨noF_ok, noM_ok⟩ (d := 27) (ext := []) (pts := c39_3_pts) (env := c39_3_e) rfl (List.forall_mem_cons.mpr ⟨⟨c40_0_v, Nat.le_of_ble_eq_true rfl⟩, List.forall_mem_cons.mpr ⟨⟨c41_6_v, Nat.le_of_ble_eq_true rfl⟩, List.forall_mem_cons.mpr ⟨⟨c41_7_v, Nat.le_of_ble_eq_true rfl⟩, List.forall_mem_cons.mpr ⟨⟨c44_0_v, Nat.le_of_ble_eq_true rfl⟩, fun _ h => (by cases h)⟩⟩⟩⟩) ext_nil (fun q h => (by cases h)) (enF c39_3_k) (List.forall_mem_cons.mpr ⟨ptF c39_3_k0, List.forall_mem_cons.mpr ⟨ptF c39_3_k1, List.forall_mem_cons.mpr ⟨ptF c39_3_k2, fun _ h => (by cases h)⟩⟩⟩)

noncomputable def c38_3 : Ct := (38, 29, (4, [(0, (.ofNat 0), (.ofNat 60)), (1, (.negSucc 2147483647), (.ofNat 2147483647)), (2, (.ofNat 0), (.ofNat 60)), (3, (.ofNat 0), (.ofNat 60))], [], [.inr (.inl (some 0)), .inl (false, ((.ofNat 5), []))], [zc191,
    zc192,
    zc89,
    .inr (1, .inr (.inl 60))], []),
  [((7, [(4, (.negSucc 2147483647), (.ofNat 2147483647)), (5, (.ofNat 0), (.ofNat 60)), (6, (.ofNat 0), (.ofNat 60))], [], [], [zc200,
    zc192,
    zc89,
    .inr (1, .inr (.inl 60))], []), 0, 0)])
noncomputable def c38_3_e : List Ct := [c39_3, c40_0, c44_0]
noncomputable def c38_3_p0 : PE := (7, [0, 1, 2], (7, [(0, (.ofNat 0), (.ofNat 60)), (1, (.negSucc 2147483647), (.ofNat 2147483647)), (2, (.ofNat 0), (.ofNat 60)), (3, (.ofNat 0), (.ofNat 60)), (4, (.negSucc 2147483647), (.ofNat 2147483647)), (5, (.ofNat 0), (.ofNat 60)), (6, (.ofNat 0), (.ofNat 60))], [], [.inr (.inl (some 0)), .inl (false, ((.ofNat 5), [])), .inl (false, ((.ofNat 0), []))], [zc200,
    zc192,
    zc89,
    .inr (1, .inr (.inl 60))], []), symsL 4 0, some ((.ofNat 121), []), 0, 0)
noncomputable def c38_3_p1 : PE := (7, [0, 1, 2, 3], (9, [(0, (.ofNat 1), (.ofNat 60)), (1, (.negSucc 2147483647), (.ofNat 2147483647)), (2, (.ofNat 0), (.ofNat 60)), (3, (.ofNat 0), (.ofNat 60)), (4, (.ofNat 1), (.ofNat 60)), (5, (.ofNat 42), (.ofNat 47)), (6, (.negSucc 2147483647), (.ofNat 2147483647)), (7, (.ofNat 0), (.ofNat 60)), (8, (.ofNat 1), (.ofNat 60))], [], [.inr (.inl (some 0)), .inl (false, ((.ofNat 5), [])), .inl (false, ((.ofNat 0), [(4, (.ofNat 1))])), .inl (false, ((.ofNat 0), [(5, (.ofNat 1))]))], [zc203,
    zc192,
    zc89,
    .inr (1, .inr (.inl 60))], []), symsL 4 0, some ((.ofNat 121), [(4, (.negSucc 0))]), 0, 0)
noncomputable def c38_3_pts : List PE := [c38_3_p0, c38_3_p1]
set_option maxRecDepth 100000 in
theorem c38_3_k : enCtF c38_3 c38_3_e (c38_3_pts ++ []) (none) (noF, noM, 128, 0, 4) 3000 = true := by decide +kernel
set_option maxRecDepth 100000 in
theorem c38_3_k0 : ptCtF c38_3 c38_3_e (c38_3_pts ++ []) (noF, noM, 128, 0, 4) 3000 c38_3_p0 = true := by decide +kernel
set_option maxRecDepth 100000 in
theorem c38_3_k1 : ptCtF c38_3 c38_3_e (c38_3_pts ++ []) (noF, noM, 128, 0, 4) 3000 c38_3_p1 = true := by decide +kernel
set_option maxRecDepth 100000 in
theorem c38_3_v : ValidC PPk c38_3 := ct_ok fpk ⟨noF_ok, noM_ok⟩ (d := 28) (ext := []) (pts := c38_3_pts) (env := c38_3_e) rfl (List.forall_mem_cons.mpr ⟨⟨c39_3_v, Nat.le_of_ble_eq_true rfl⟩, List.forall_mem_cons.mpr ⟨⟨c40_0_v, Nat.le_of_ble_eq_true rfl⟩, List.forall_mem_cons.mpr ⟨⟨c44_0_v, Nat.le_of_ble_eq_true rfl⟩, fun _ h => (by cases h)⟩⟩⟩) ext_nil (fun q h => (by cases h)) (enF c38_3_k) (List.forall_mem_cons.mpr ⟨ptF c38_3_k0, List.forall_mem_cons.mpr ⟨ptF c38_3_k1, fun _ h => (by cases h)⟩⟩)

noncomputable def c37_3 : Ct := (37, 30, (4, [(0, (.ofNat 0), (.ofNat 60)), (1, (.negSucc 2147483647), (.ofNat 2147483647)), (2, (.ofNat 0), (.ofNat 60)), (3, (.ofNat 0), (.ofNat 60))], [], [.inr (.inl (some 0)), .inl (false, ((.ofNat 5), []))], [zc191,
    zc192,
    zc89,
    .inr (1, .inr (.inl 60))], []),
  [((7, [(4, (.negSucc 2147483647), (.ofNat 2147483647)), (5, (.ofNat 0), (.ofNat 60)), (6, (.ofNat 0), (.ofNat 60))], [], [], [zc200,
    zc192,
    zc89,
    .inr (1, .inr (.inl 60))], []), 0, 0)])
noncomputable def c37_3_e : List Ct := [c38_3, c40_0, c44_0]
noncomputable def c37_3_p0 : PE := (7, [0, 1, 2], (7, [(0, (.ofNat 0), (.ofNat 60)), (1, (.negSucc 2147483647), (.ofNat 2147483647)), (2, (.ofNat 0), (.ofNat 60)), (3, (.ofNat 0), (.ofNat 60)), (4, (.negSucc 2147483647), (.ofNat 2147483647)), (5, (.ofNat 0), (.ofNat 60)), (6, (.ofNat 0), (.ofNat 60))], [], [.inr (.inl (some 0)), .inl (false, ((.ofNat 5), [])), .inl (false, ((.ofNat 0), []))], [zc200,
    zc192,
    zc89,
    .inr (1, .inr (.inl 60))], []), symsL 4 0, some ((.ofNat 121), []), 0, 0)
noncomputable def c37_3_p1 : PE := (7, [0, 1, 2, 3], (9, [(0, (.ofNat 1), (.ofNat 60)), (1, (.negSucc 2147483647), (.ofNat 2147483647)), (2, (.ofNat 0), (.ofNat 60)), (3, (.ofNat 0), (.ofNat 60)), (4, (.ofNat 1), (.ofNat 60)), (5, (.ofNat 43), (.ofNat 45)), (6, (.negSucc 2147483647), (.ofNat 2147483647)), (7, (.ofNat 0), (.ofNat 60)), (8, (.ofNat 1), (.ofNat 60))], [], [.inr (.inl (some 0)), .inl (false, ((.ofNat 5), [])), .inl (false, ((.ofNat 0), [(4, (.ofNat 1))])), .inl (false, ((.ofNat 0), [(5, (.ofNat 1))]))], [zc203,
    zc192,
    zc89,
    .inr (1, .inr (.inl 60))], []), symsL 4 0, some ((.ofNat 121), [(4, (.negSucc 0))]), 0, 0)
noncomputable def c37_3_pts : List PE := [c37_3_p0, c37_3_p1]
set_option maxRecDepth 100000 in
theorem c37_3_k : enCtF c37_3 c37_3_e (c37_3_pts ++ []) (none) (noF, noM, 128, 0, 4) 3000 = true := by decide +kernel
set_option maxRecDepth 100000 in
theorem c37_3_k0 : ptCtF c37_3 c37_3_e (c37_3_pts ++ []) (noF, noM, 128, 0, 4) 3000 c37_3_p0 = true := by decide +kernel
set_option maxRecDepth 100000 in
theorem c37_3_k1 : ptCtF c37_3 c37_3_e (c37_3_pts ++ []) (noF, noM, 128, 0, 4) 3000 c37_3_p1 = true := by decide +kernel
set_option maxRecDepth 100000 in
theorem c37_3_v : ValidC PPk c37_3 := ct_ok fpk ⟨noF_ok, noM_ok⟩ (d := 29) (ext := []) (pts := c37_3_pts) (env := c37_3_e) rfl (List.forall_mem_cons.mpr ⟨⟨c38_3_v, Nat.le_of_ble_eq_true rfl⟩, List.forall_mem_cons.mpr ⟨⟨c40_0_v, Nat.le_of_ble_eq_true rfl⟩, List.forall_mem_cons.mpr ⟨⟨c44_0_v, Nat.le_of_ble_eq_true rfl⟩, fun _ h => (by cases h)⟩⟩⟩) ext_nil (fun q h => (by cases h)) (enF c37_3_k) (List.forall_mem_cons.mpr ⟨ptF c37_3_k0, List.forall_mem_cons.mpr ⟨ptF c37_3_k1, fun _ h => (by cases h)⟩⟩)

noncomputable def c36_3 : Ct := (36, 31, (4, [(0, (.ofNat 0), (.ofNat 60)), (1, (.negSucc 2147483647), (.ofNat 2147483647)), (2, (.ofNat 0), (.ofNat 60)), (3, (.ofNat 0), (.ofNat 60))], [], [.inr (.inl (some 0)), .inl (false, ((.ofNat 5), []))], [zc191,
    zc192,
    zc89,
    .inr (1, .inr (.inl 60))], []),
  [((7, [(4, (.negSucc 2147483647), (.ofNat 2147483647)), (5, (.ofNat 0), (.ofNat 60)), (6, (.ofNat 0), (.ofNat 60))], [], [], [zc200,
    zc192,
    zc89,
    .inr (1, .inr (.inl 60))], []), 0, 0)])
noncomputable def c36_3_e : List Ct := [c37_3, c40_0, c44_0]
noncomputable def c36_3_pts : List PE := []
set_option maxRecDepth 100000 in
theorem c36_3_k : enCtF c36_3 c36_3_e (c36_3_pts ++ []) (none) noH 3000 = true := by decide +kernel
set_option maxRecDepth 100000 in
theorem c36_3_v : ValidC PPk c36_3 := ct_ok fpk noH_ok (d := 30) (ext := []) (pts := c36_3_pts) (env := c36_3_e) rfl (List.forall_mem_cons.mpr ⟨⟨c37_3_v, Nat.le_of_ble_eq_true rfl⟩, List.forall_mem_cons.mpr ⟨⟨c40_0_v, Nat.le_of_ble_eq_true rfl⟩, List.forall_mem_cons.mpr ⟨⟨c44_0_v, Nat.le_of_ble_eq_true rfl⟩, fun _ h => (by cases h)⟩⟩⟩) ext_nil (fun q h => (by cases h)) (enF c36_3_k) (fun _ h => (by cases h))

noncomputable def c35_3 : Ct := (35, 32, (4, [(0, (.ofNat 0), (.ofNat 60)), (1, (.negSucc 2147483647), (.ofNat 2147483647)), (2, (.ofNat 0), (.ofNat 60)), (3, (.ofNat 0), (.ofNat 60))], [], [.inr (.inl (some 0)), .inl (false, ((.ofNat 5), []))], [zc191,
    zc192,
    zc89,
    .inr (1, .inr (.inl 60))], []),
  [((7, [(4, (.negSucc 2147483647), (.ofNat 2147483647)), (5, (.ofNat 0), (.ofNat 60)), (6, (.ofNat 0), (.ofNat 60))], [], [], [zc200,
    zc192,
    zc89,
    .inr (1, .inr (.inl 60))], []), 0, 0)])
noncomputable def c35_3_e : List Ct := [c36_3, c40_0, c44_0]
noncomputable def c35_3_p0 : PE := (7, [0, 1, 2], (8, [(0, (.ofNat 0), (.ofNat 60)), (1, (.negSucc 2147483647), (.ofNat 2147483647)), (2, (.ofNat 0), (.ofNat 60)), (3, (.ofNat 0), (.ofNat 60)), (4, (.ofNat 0), (.ofNat 60)), (5, (.negSucc 2147483647), (.ofNat 2147483647)), (6, (.ofNat 0), (.ofNat 60)), (7, (.ofNat 0), (.ofNat 60))], [], [.inr (.inl (some 0)), .inl (false, ((.ofNat 5), [])), .inl (false, ((.ofNat 0), [(4, (.ofNat 1))]))], [zc204,
    zc192,
    zc89,
    .inr (1, .inr (.inl 60))], []), symsL 4 0, some ((.ofNat 121), [(4, (.negSucc 0))]), 0, 0)
noncomputable def c35_3_pts : List PE := [c35_3_p0]
set_option maxRecDepth 100000 in
theorem c35_3_k : enCtF c35_3 c35_3_e (c35_3_pts ++ []) (none) (noF, noM, 128, 0, 4) 3000 = true := by decide +kernel
set_option maxRecDepth 100000 in
theorem c35_3_k0 : ptCtF c35_3 c35_3_e (c35_3_pts ++ []) (noF, noM, 128, 0, 4) 3000 c35_3_p0 = true := by decide +kernel
set_option maxRecDepth 100000 in
theorem c35_3_v : ValidC PPk c35_3 := ct_ok fpk ⟨noF_ok, noM_ok⟩ (d := 31) (ext := []) (pts := c35_3_pts) (env := c35_3_e) rfl (List.forall_mem_cons.mpr ⟨⟨c36_3_v, Nat.le_of_ble_eq_true rfl⟩, List.forall_mem_cons.mpr ⟨⟨c40_0_v, Nat.le_of_ble_eq_true rfl⟩, List.forall_mem_cons.mpr ⟨⟨c44_0_v, Nat.le_of_ble_eq_true rfl⟩, fun _ h => (by cases h)⟩⟩⟩) ext_nil (fun q h => (by cases h)) (enF c35_3_k) (List.forall_mem_cons.mpr ⟨ptF c35_3_k0, fun _ h => (by cases h)⟩)

noncomputable def c34_3 : Ct := (34, 33, (4, [(0, (.ofNat 0), (.ofNat 60)), (1, (.negSucc 2147483647), (.ofNat 2147483647)), (2, (.ofNat 0), (.ofNat 60)), (3, (.ofNat 0), (.ofNat 60))], [], [.inr (.inl (some 0)), .inl (false, ((.ofNat 5), []))], [zc191,
    zc192,
    zc89,
    .inr (1, .inr (.inl 60))], []),
  [((7, [(4, (.negSucc 2147483647), (.ofNat 2147483647)), (5, (.ofNat 0), (.ofNat 60)), (6, (.ofNat 0), (.ofNat 60))], [], [], [zc200,
    zc192,
    zc89,
    .inr (1, .inr (.inl 60))], []), 0, 0)])
noncomputable def c34_3_e : List Ct := [c35_3, c40_0, c44_0]
noncomputable def c34_3_p0 : PE := (7, [0, 1, 2], (8, [(0, (.ofNat 0), (.ofNat 60)), (1, (.negSucc 2147483647), (.ofNat 2147483647)), (2, (.ofNat 0), (.ofNat 60)), (3, (.ofNat 0), (.ofNat 60)), (4, (.ofNat 0), (.ofNat 60)), (5, (.negSucc 2147483647), (.ofNat 2147483647)), (6, (.ofNat 0), (.ofNat 60)), (7, (.ofNat 0), (.ofNat 60))], [], [.inr (.inl (some 0)), .inl (false, ((.ofNat 5), [])), .inl (false, ((.ofNat 0), [(4, (.ofNat 1))]))], [zc204,
    zc192,
    zc89,
    .inr (1, .inr (.inl 60))], []), symsL 4 0, some ((.ofNat 121), [(4, (.negSucc 0))]), 0, 0)
noncomputable def c34_3_pts : List PE := [c34_3_p0]
set_option maxRecDepth 100000 in
theorem c34_3_k : enCtF c34_3 c34_3_e (c34_3_pts ++ []) (none) (noF, noM, 128, 0, 4) 3000 = true := by decide +kernel
set_option maxRecDepth 100000 in
theorem c34_3_k0 : ptCtF c34_3 c34_3_e (c34_3_pts ++ []) (noF, noM, 128, 0, 4) 3000 c34_3_p0 = true := by decide +kernel
set_option maxRecDepth 100000 in
theorem c34_3_v : ValidC PPk c34_3 := ct_ok fpk ⟨noF_ok, noM_ok⟩ (d := 32) (ext := []) (pts := c34_3_pts) (env := c34_3_e) rfl (List.forall_mem_cons.mpr ⟨⟨c35_3_v, Nat.le_of_ble_eq_true rfl⟩, List.forall_mem_cons.mpr ⟨⟨c40_0_v, Nat.le_of_ble_eq_true rfl⟩, List.forall_mem_cons.mpr ⟨⟨c44_0_v, Nat.le_of_ble_eq_true rfl⟩, fun _ h => (by cases h)⟩⟩⟩) ext_nil (fun q h => (by cases h)) (enF c34_3_k) (List.forall_mem_cons.mpr ⟨ptF c34_3_k0, fun _ h => (by cases h)⟩)

noncomputable def c45_4 : Ct := (45, 34, (4, [(0, (.ofNat 0), (.ofNat 60)), (1, (.negSucc 2147483647), (.ofNat 2147483647)), (2, (.ofNat 0), (.ofNat 60)), (3, (.ofNat 0), (.ofNat 60))], [((.ofNat 1), [(0, (.negSucc 0)), (2, (.ofNat 1))])], [.inr (.inl (some 0)), .inl (false, ((.ofNat 4), []))], [zc191,
    zc192,
    zc89,
    .inr (1, .inr (.inl 60))], []),
  [((7, [(4, (.negSucc 2147483647), (.ofNat 2147483647)), (5, (.ofNat 0), (.ofNat 60)), (6, (.ofNat 0), (.ofNat 60))], [], [], [zc200,
    zc192,
    zc89,
    .inr (1, .inr (.inl 60))], []), 0, 0)])
noncomputable def c45_4_e : List Ct := [c34_3, c40_0, c43_0]
noncomputable def c45_4_pts : List PE := []
set_option maxRecDepth 100000 in
theorem c45_4_k : enCtF c45_4 c45_4_e (c45_4_pts ++ []) (none) noH 3000 = true := by decide +kernel
set_option maxRecDepth 100000 in
theorem c45_4_v : ValidC PPk c45_4 := ct_ok fpk noH_ok (d := 33) (ext := []) (pts := c45_4_pts) (env := c45_4_e) rfl (List.forall_mem_cons.mpr ⟨⟨c34_3_v, Nat.le_of_ble_eq_true rfl⟩, List.forall_mem_cons.mpr ⟨⟨c40_0_v, Nat.le_of_ble_eq_true rfl⟩, List.forall_mem_cons.mpr ⟨⟨c43_0_v, Nat.le_of_ble_eq_true rfl⟩, fun _ h => (by cases h)⟩⟩⟩) ext_nil (fun q h => (by cases h)) (enF c45_4_k) (fun _ h => (by cases h))

noncomputable def c41_8 : Ct := (41, 35, (5, [(0, (.negSucc 2147483647), (.ofNat 2147483647)), (1, (.ofNat 0), (.ofNat 60)), (2, (.negSucc 2147483647), (.ofNat 2147483647)), (3, (.ofNat 0), (.ofNat 60)), (4, (.ofNat 0), (.ofNat 60))], [((.ofNat 1), [(1, (.negSucc 0)), (3, (.ofNat 1))])], [.inr (.inl (some 0)), .inl (false, ((.ofNat 0), [(0, (.ofNat 1))])), .inl (false, ((.ofNat 4), []))], [zc198,
    zc192,
    zc89,
    .inr (1, .inr (.inl 60))], []),
  [((8, [(5, (.negSucc 2147483647), (.ofNat 2147483647)), (6, (.ofNat 0), (.ofNat 60)), (7, (.ofNat 0), (.ofNat 60))], [], [], [zc201,
    zc192,
    zc89,
    .inr (1, .inr (.inl 60))], []), 0, 0)])
noncomputable def c41_8_e : List Ct := [c42_0, c43_0, c44_0, c45_4]
noncomputable def c41_8_pts : List PE := []
set_option maxRecDepth 100000 in
theorem c41_8_k : enCtF c41_8 c41_8_e (c41_8_pts ++ []) (none) noH 3000 = true := by decide +kernel
set_option maxRecDepth 100000 in
theorem c41_8_v : ValidC PPk c41_8 := ct_ok fpk noH_ok (d := 34) (ext := []) (pts := c41_8_pts) (env := c41_8_e) rfl (List.forall_mem_cons.mpr ⟨⟨c42_0_v, Nat.le_of_ble_eq_true rfl⟩, List.forall_mem_cons.mpr ⟨⟨c43_0_v, Nat.le_of_ble_eq_true rfl⟩, List.forall_mem_cons.mpr ⟨⟨c44_0_v, Nat.le_of_ble_eq_true rfl⟩, List.forall_mem_cons.mpr ⟨⟨c45_4_v, Nat.le_of_ble_eq_true rfl⟩, fun _ h => (by cases h)⟩⟩⟩⟩) ext_nil (fun q h => (by cases h)) (enF c41_8_k) (fun _ h => (by cases h))

noncomputable def c41_9 : Ct := (41, 2, (6, [(0, (.ofNat 0), (.ofNat 60)), (1, (.negSucc 2147483647), (.ofNat 2147483647)), (2, (.ofNat 0), (.ofNat 60)), (3, (.ofNat 0), (.ofNat 60))], [], [.inr (.inl (some 0)), .inl (false, ((.negSucc 0), [])), .inl (false, ((.ofNat 4), []))], [zc191,
    zc196,
    zc133,
    .inr (1, .inr (.inl 60))], []),
  [((7, [(6, (.negSucc 2147483647), (.ofNat 2147483647))], [], [], [zc197,
    zc196,
    zc133,
    .inr (1, .inr (.inl 60))], []), 0, 0)])
noncomputable def c41_9_e : List Ct := [c43_0]
noncomputable def c41_9_pts : List PE := []
set_option maxRecDepth 100000 in
theorem c41_9_k : enCtF c41_9 c41_9_e (c41_9_pts ++ []) (none) noH 3000 = true := by decide +kernel
set_option maxRecDepth 100000 in
theorem c41_9_v : ValidC PPk c41_9 := ct_ok fpk noH_ok (d := 1) (ext := []) (pts := c41_9_pts) (env := c41_9_e) rfl (List.forall_mem_cons.mpr ⟨⟨c43_0_v, Nat.le_of_ble_eq_true rfl⟩, fun _ h => (by cases h)⟩) ext_nil (fun q h => (by cases h)) (enF c41_9_k) (fun _ h => (by cases h))

noncomputable def c39_4 : Ct := (39, 36, (4, [(0, (.ofNat 0), (.ofNat 60)), (1, (.negSucc 2147483647), (.ofNat 2147483647)), (2, (.ofNat 0), (.ofNat 60)), (3, (.ofNat 0), (.ofNat 60))], [], [.inr (.inl (some 0)), .inl (false, ((.ofNat 4), []))], [zc191,
    zc192,
    zc89,
    .inr (1, .inr (.inl 60))], []),
  [((7, [(4, (.negSucc 2147483647), (.ofNat 2147483647)), (5, (.ofNat 0), (.ofNat 60)), (6, (.ofNat 0), (.ofNat 60))], [], [], [zc200,
    zc192,
    zc89,
    .inr (1, .inr (.inl 60))], []), 0, 0)])
noncomputable def c39_4_e : List Ct := [c40_0, c41_8, c41_9, c44_0]
noncomputable def c39_4_p0 : PE := (13, [0, 1, 2, 3, 4], (7, [(0, (.ofNat 1), (.ofNat 60)), (1, (.negSucc 0), (.negSucc 0)), (2, (.ofNat 0), (.ofNat 60)), (3, (.ofNat 0), (.ofNat 60)), (4, (.ofNat 0), (.ofNat 127)), (5, (.ofNat 0), (.ofNat 60)), (6, (.ofNat 0), (.ofNat 59))], [((.ofNat 1), [(0, (.negSucc 0)), (6, (.ofNat 1))])], [.inr (.inl (some 0)), .inl (false, ((.ofNat 4), [])), .inl (false, ((.ofNat 0), [(2, (.ofNat 1))])), .inl (false, ((.ofNat 0), [(4, (.ofNat 1))])), .inl (false, ((.ofNat 0), [(5, (.ofNat 1))]))], [zc194,
    zc192,
    zc89,
    .inr (1, .inr (.inl 60))], []), symsL 4 0, some ((.ofNat 182), [(5, (.negSucc 0))]), 0, 0)
noncomputable def c39_4_p1 : PE := (13, [0, 1, 2, 3, 4], (6, [(0, (.ofNat 0), (.ofNat 60)), (1, (.negSucc 2147483647), (.ofNat 2147483647)), (2, (.ofNat 0), (.ofNat 60)), (3, (.ofNat 0), (.ofNat 60)), (4, (.ofNat 0), (.ofNat 60)), (5, (.ofNat 0), (.ofNat 60))], [], [.inr (.inl (some 0)), .inl (false, ((.ofNat 4), [])), .inl (false, ((.ofNat 0), [(2, (.ofNat 1))])), .inl (false, ((.negSucc 0), [])), .inl (false, ((.ofNat 0), [(4, (.ofNat 1))]))], [zc193,
    zc192,
    zc89,
    .inr (1, .inr (.inl 60))], []), symsL 4 0, some ((.ofNat 182), [(4, (.negSucc 0))]), 0, 0)
noncomputable def c39_4_p2 : PE := (71, [0, 1, 2, 3, 4, 5], (10, [(0, (.ofNat 0), (.ofNat 60)), (1, (.negSucc 2147483647), (.ofNat 2147483647)), (2, (.ofNat 0), (.ofNat 60)), (3, (.ofNat 0), (.ofNat 60)), (4, (.negSucc 0), (.ofNat 127)), (5, (.ofNat 0), (.ofNat 60)), (6, (.negSucc 0), (.ofNat 59)), (7, (.negSucc 2147483647), (.ofNat 2147483647)), (8, (.ofNat 0), (.ofNat 60)), (9, (.ofNat 0), (.ofNat 60))], [], [.inr (.inl (some 0)), .inl (false, ((.ofNat 4), [])), .inl (false, ((.ofNat 0), [(2, (.ofNat 1))])), .inl (false, ((.ofNat 0), [(4, (.ofNat 1))])), .inl (false, ((.ofNat 0), [(5, (.ofNat 1))])), .inl (false, ((.ofNat 0), [(6, (.ofNat 1))]))], [zc202,
    zc192,
    zc89,
    .inr (1, .inr (.inl 60))], []), symsL 4 0, some ((.ofNat 62), [(6, (.ofNat 1))]), 0, 0)
noncomputable def c39_4_pts : List PE := [c39_4_p0, c39_4_p1, c39_4_p2]
set_option maxRecDepth 100000 in
theorem c39_4_k : enCtF c39_4 c39_4_e (c39_4_pts ++ []) (none) (noF, noM, 2361183241434822615040, 0, 4) 3000 = true := by decide +kernel
set_option maxRecDepth 100000 in
theorem c39_4_k0 : ptCtF c39_4 c39_4_e (c39_4_pts ++ []) (noF, noM, 2361183241434822615040, 0, 4) 3000 c39_4_p0 = true := by decide +kernel
set_option maxRecDepth 100000 in
theorem c39_4_k1 : ptCtF c39_4 c39_4_e (c39_4_pts ++ []) (noF, noM, 2361183241434822615040, 0, 4) 3000 c39_4_p1 = true := by decide +kernel
set_option maxRecDepth 100000 in
theorem c39_4_k2 : ptCtF c39_4 c39_4_e (c39_4_pts ++ []) (noF, noM, 2361183241434822615040, 0, 4) 3000 c39_4_p2 = true := by decide +kernel
set_option maxRecDepth 100000 in
theorem c39_4_v : ValidC PPk c39_4 := ct_ok fpk ⟨noF_ok, noM_ok⟩ (d := 35) (ext := []) (pts := c39_4_pts) (env := c39_4_e) rfl (List.forall_mem_cons.mpr ⟨⟨c40_0_v, Nat.le_of_ble_eq_true rfl⟩, List.forall_mem_cons.mpr ⟨⟨c41_8_v, Nat.le_of_ble_eq_true rfl⟩, List.forall_mem_cons.mpr ⟨⟨c41_9_v, Nat.le_of_ble_eq_true rfl⟩, List.forall_mem_cons.mpr ⟨⟨c44_0_v, Nat.le_of_ble_eq_true rfl⟩, fun _ h => (by cases h)⟩⟩⟩⟩) ext_nil (fun q h => (by cases h)) (enF c39_4_k) (List.forall_mem_cons.mpr ⟨ptF c39_4_k0, List.forall_mem_cons.mpr ⟨ptF c39_4_k1, List.forall_mem_cons.mpr ⟨ptF c39_4_k2, fun _ h => (by cases h)⟩⟩⟩)

noncomputable def c38_4 : Ct := (38, 37, (4, [(0, (.ofNat 0), (.ofNat 60)), (1, (.negSucc 2147483647), (.ofNat 2147483647)), (2, (.ofNat 0), (.ofNat 60)), (3, (.ofNat 0), (.ofNat 60))], [], [.inr (.inl (some 0)), .inl (false, ((.ofNat 4), []))], [zc191,
    zc192,
    zc89,
    .inr (1, .inr (.inl 60))], []),
  [((7, [(4, (.negSucc 2147483647), (.ofNat 2147483647)), (5, (.ofNat 0), (.ofNat 60)), (6, (.ofNat 0), (.ofNat 60))], [], [], [zc200,
    zc192,
    zc89,
    .inr (1, .inr (.inl 60))], []), 0, 0)])
noncomputable def c38_4_e : List Ct := [c39_4, c40_0, c44_0]
noncomputable def c38_4_p0 : PE := (7, [0, 1, 2], (7, [(0, (.ofNat 0), (.ofNat 60)), (1, (.negSucc 2147483647), (.ofNat 2147483647)), (2, (.ofNat 0), (.ofNat 60)), (3, (.ofNat 0), (.ofNat 60)), (4, (.negSucc 2147483647), (.ofNat 2147483647)), (5, (.ofNat 0), (.ofNat 60)), (6, (.ofNat 0), (.ofNat 60))], [], [.inr (.inl (some 0)), .inl (false, ((.ofNat 4), [])), .inl (false, ((.ofNat 0), []))], [zc200,
    zc192,
    zc89,
    .inr (1, .inr (.inl 60))], []), symsL 4 0, some ((.ofNat 121), []), 0, 0)
noncomputable def c38_4_p1 : PE := (7, [0, 1, 2, 3], (9, [(0, (.ofNat 1), (.ofNat 60)), (1, (.negSucc 2147483647), (.ofNat 2147483647)), (2, (.ofNat 0), (.ofNat 60)), (3, (.ofNat 0), (.ofNat 60)), (4, (.ofNat 1), (.ofNat 60)), (5, (.ofNat 42), (.ofNat 47)), (6, (.negSucc 2147483647), (.ofNat 2147483647)), (7, (.ofNat 0), (.ofNat 60)), (8, (.ofNat 1), (.ofNat 60))], [], [.inr (.inl (some 0)), .inl (false, ((.ofNat 4), [])), .inl (false, ((.ofNat 0), [(4, (.ofNat 1))])), .inl (false, ((.ofNat 0), [(5, (.ofNat 1))]))], [zc203,
    zc192,
    zc89,
    .inr (1, .inr (.inl 60))], []), symsL 4 0, some ((.ofNat 121), [(4, (.negSucc 0))]), 0, 0)
noncomputable def c38_4_pts : List PE := [c38_4_p0, c38_4_p1]
set_option maxRecDepth 100000 in
theorem c38_4_k : enCtF c38_4 c38_4_e (c38_4_pts ++ []) (none) (noF, noM, 128, 0, 4) 3000 = true := by decide +kernel
set_option maxRecDepth 100000 in
theorem c38_4_k0 : ptCtF c38_4 c38_4_e (c38_4_pts ++ []) (noF, noM, 128, 0, 4) 3000 c38_4_p0 = true := by decide +kernel
set_option maxRecDepth 100000 in
theorem c38_4_k1 : ptCtF c38_4 c38_4_e (c38_4_pts ++ []) (noF, noM, 128, 0, 4) 3000 c38_4_p1 = true := by decide +kernel
set_option maxRecDepth 100000 in
theorem c38_4_v : ValidC PPk c38_4 := ct_ok fpk ⟨noF_ok, noM_ok⟩ (d := 36) (ext := []) (pts := c38_4_pts) (env := c38_4_e) rfl (List.forall_mem_cons.mpr ⟨⟨c39_4_v, Nat.le_of_ble_eq_true rfl⟩, List.forall_mem_cons.mpr ⟨⟨c40_0_v, Nat.le_of_ble_eq_true rfl⟩, List.forall_mem_cons.mpr ⟨⟨c44_0_v, Nat.le_of_ble_eq_true rfl⟩, fun _ h => (by cases h)⟩⟩⟩) ext_nil (fun q h => (by cases h)) (enF c38_4_k) (List.forall_mem_cons.mpr ⟨ptF c38_4_k0, List.forall_mem_cons.mpr ⟨ptF c38_4_k1, fun _ h => (by cases h)⟩⟩)

noncomputable def c37_4 : Ct := (37, 38, (4, [(0, (.ofNat 0), (.ofNat 60)), (1, (.negSucc 2147483647), (.ofNat 2147483647)), (2, (.ofNat 0), (.ofNat 60)), (3, (.ofNat 0), (.ofNat 60))], [], [.inr (.inl (some 0)), .inl (false, ((.ofNat 4), []))], [zc191,
    zc192,
    zc89,
    .inr (1, .inr (.inl 60))], []),
  [((7, [(4, (.negSucc 2147483647), (.ofNat 2147483647)), (5, (.ofNat 0), (.ofNat 60)), (6, (.ofNat 0), (.ofNat 60))], [], [], [zc200,
    zc192,
    zc89,
    .inr (1, .inr (.inl 60))], []), 0, 0)])
noncomputable def c37_4_e : List Ct := [c38_4, c40_0, c44_0]
noncomputable def c37_4_p0 : PE := (7, [0, 1, 2], (7, [(0, (.ofNat 0), (.ofNat 60)), (1, (.negSucc 2147483647), (.ofNat 2147483647)), (2, (.ofNat 0), (.ofNat 60)), (3, (.ofNat 0), (.ofNat 60)), (4, (.negSucc 2147483647), (.ofNat 2147483647)), (5, (.ofNat 0), (.ofNat 60)), (6, (.ofNat 0), (.ofNat 60))], [], [.inr (.inl (some 0)), .inl (false, ((.ofNat 4), [])), .inl (false, ((.ofNat 0), []))], [zc200,
    zc192,
    zc89,
    .inr (1, .inr (.inl 60))], []), symsL 4 0, some ((.ofNat 121), []), 0, 0)
noncomputable def c37_4_p1 : PE := (7, [0, 1, 2, 3], (9, [(0, (.ofNat 1), (.ofNat 60)), (1, (.negSucc 2147483647), (.ofNat 2147483647)), (2, (.ofNat 0), (.ofNat 60)), (3, (.ofNat 0), (.ofNat 60)), (4, (.ofNat 1), (.ofNat 60)), (5, (.ofNat 43), (.ofNat 45)), (6, (.negSucc 2147483647), (.ofNat 2147483647)), (7, (.ofNat 0), (.ofNat 60)), (8, (.ofNat 1), (.ofNat 60))], [], [.inr (.inl (some 0)), .inl (false, ((.ofNat 4), [])), .inl (false, ((.ofNat 0), [(4, (.ofNat 1))])), .inl (false, ((.ofNat 0), [(5, (.ofNat 1))]))], [zc203,
    zc192,
    zc89,
    .inr (1, .inr (.inl 60))], []), symsL 4 0, some ((.ofNat 121), [(4, (.negSucc 0))]), 0, 0)
noncomputable def c37_4_pts : List PE := [c37_4_p0, c37_4_p1]
set_option maxRecDepth 100000 in
theorem c37_4_k : enCtF c37_4 c37_4_e (c37_4_pts ++ []) (none) (noF, noM, 128, 0, 4) 3000 = true := by decide +kernel
set_option maxRecDepth 100000 in
theorem c37_4_k0 : ptCtF c37_4 c37_4_e (c37_4_pts ++ []) (noF, noM, 128, 0, 4) 3000 c37_4_p0 = true := by decide +kernel
set_option maxRecDepth 100000 in
theorem c37_4_k1 : ptCtF c37_4 c37_4_e (c37_4_pts ++ []) (noF, noM, 128, 0, 4) 3000 c37_4_p1 = true := by decide +kernel
set_option maxRecDepth 100000 in
theorem c37_4_v : ValidC PPk c37_4 := ct_ok fpk ⟨noF_ok, noM_ok⟩ (d := 37) (ext := []) (pts := c37_4_pts) (env := c37_4_e) rfl (List.forall_mem_cons.mpr ⟨⟨c38_4_v, Nat.le_of_ble_eq_true rfl⟩, List.forall_mem_cons.mpr ⟨⟨c40_0_v, Nat.le_of_ble_eq_true rfl⟩, List.forall_mem_cons.mpr ⟨⟨c44_0_v, Nat.le_of_ble_eq_true rfl⟩, fun _ h => (by cases h)⟩⟩⟩) ext_nil (fun q h => (by cases h)) (enF c37_4_k) (List.forall_mem_cons.mpr ⟨ptF c37_4_k0, List.forall_mem_cons.mpr ⟨ptF c37_4_k1, fun _ h => (by cases h)⟩⟩)

noncomputable def c36_4 : Ct := (36, 39, (4, [(0, (.ofNat 0), (.ofNat 60)), (1, (.negSucc 2147483647), (.ofNat 2147483647)), (2, (.ofNat 0), (.ofNat 60)), (3, (.ofNat 0), (.ofNat 60))], [], [.inr (.inl (some 0)), .inl (false, ((.ofNat 4), []))], [zc191,
    zc192,
    zc89,
    .inr (1, .inr (.inl 60))], []),
  [((7, [(4, (.negSucc 2147483647), (.ofNat 2147483647)), (5, (.ofNat 0), (.ofNat 60)), (6, (.ofNat 0), (.ofNat 60))], [], [], [zc200,
    zc192,
    zc89,
    .inr (1, .inr (.inl 60))], []), 0, 0)])
noncomputable def c36_4_e : List Ct := [c37_4, c40_0, c44_0]
noncomputable def c36_4_pts : List PE := []
set_option maxRecDepth 100000 in
theorem c36_4_k : enCtF c36_4 c36_4_e (c36_4_pts ++ []) (none) noH 3000 = true := by decide +kernel
set_option maxRecDepth 100000 in
theorem c36_4_v : ValidC PPk c36_4 := ct_ok fpk noH_ok (d := 38) (ext := []) (pts := c36_4_pts) (env := c36_4_e) rfl (List.forall_mem_cons.mpr ⟨⟨c37_4_v, Nat.le_of_ble_eq_true rfl⟩, List.forall_mem_cons.mpr ⟨⟨c40_0_v, Nat.le_of_ble_eq_true rfl⟩, List.forall_mem_cons.mpr ⟨⟨c44_0_v, Nat.le_of_ble_eq_true rfl⟩, fun _ h => (by cases h)⟩⟩⟩) ext_nil (fun q h => (by cases h)) (enF c36_4_k) (fun _ h => (by cases h))

noncomputable def c35_4 : Ct := (35, 40, (4, [(0, (.ofNat 0), (.ofNat 60)), (1, (.negSucc 2147483647), (.ofNat 2147483647)), (2, (.ofNat 0), (.ofNat 60)), (3, (.ofNat 0), (.ofNat 60))], [], [.inr (.inl (some 0)), .inl (false, ((.ofNat 4), []))], [zc191,
    zc192,
    zc89,
    .inr (1, .inr (.inl 60))], []),
  [((7, [(4, (.negSucc 2147483647), (.ofNat 2147483647)), (5, (.ofNat 0), (.ofNat 60)), (6, (.ofNat 0), (.ofNat 60))], [], [], [zc200,
    zc192,
    zc89,
    .inr (1, .inr (.inl 60))], []), 0, 0)])
noncomputable def c35_4_e : List Ct := [c36_4, c40_0, c44_0]
noncomputable def c35_4_p0 : PE := (7, [0, 1, 2], (8, [(0, (.ofNat 0), (.ofNat 60)), (1, (.negSucc 2147483647), (.ofNat 2147483647)), (2, (.ofNat 0), (.ofNat 60)), (3, (.ofNat 0), (.ofNat 60)), (4, (.ofNat 0), (.ofNat 60)), (5, (.negSucc 2147483647), (.ofNat 2147483647)), (6, (.ofNat 0), (.ofNat 60)), (7, (.ofNat 0), (.ofNat 60))], [], [.inr (.inl (some 0)), .inl (false, ((.ofNat 4), [])), .inl (false, ((.ofNat 0), [(4, (.ofNat 1))]))], [zc204,
    zc192,
    zc89,
    .inr (1, .inr (.inl 60))], []), symsL 4 0, some ((.ofNat 121), [(4, (.negSucc 0))]), 0, 0)
noncomputable def c35_4_pts : List PE := [c35_4_p0]
set_option maxRecDepth 100000 in
theorem c35_4_k : enCtF c35_4 c35_4_e (c35_4_pts ++ []) (none) (noF, noM, 128, 0, 4) 3000 = true := by decide +kernel
set_option maxRecDepth 100000 in
theorem c35_4_k0 : ptCtF c35_4 c35_4_e (c35_4_pts ++ []) (noF, noM, 128, 0, 4) 3000 c35_4_p0 = true := by decide +kernel
set_option maxRecDepth 100000 in
theorem c35_4_v : ValidC PPk c35_4 := ct_ok fpk ⟨noF_ok, noM_ok⟩ (d := 39) (ext := []) (pts := c35_4_pts) (env := c35_4_e) rfl (List.forall_mem_cons.mpr ⟨⟨c36_4_v, Nat.le_of_ble_eq_true rfl⟩, List.forall_mem_cons.mpr ⟨⟨c40_0_v, Nat.le_of_ble_eq_true rfl⟩, List.forall_mem_cons.mpr ⟨⟨c44_0_v, Nat.le_of_ble_eq_true rfl⟩, fun _ h => (by cases h)⟩⟩⟩) ext_nil (fun q h => (by cases h)) (enF c35_4_k) (List.forall_mem_cons.mpr ⟨ptF c35_4_k0, fun _ h => (by cases h)⟩)

noncomputable def c34_4 : Ct := (34, 41, (4, [(0, (.ofNat 0), (.ofNat 60)), (1, (.negSucc 2147483647), (.ofNat 2147483647)), (2, (.ofNat 0), (.ofNat 60)), (3, (.ofNat 0), (.ofNat 60))], [], [.inr (.inl (some 0)), .inl (false, ((.ofNat 4), []))], [zc191,
    zc192,
    zc89,
    .inr (1, .inr (.inl 60))], []),
  [((7, [(4, (.negSucc 2147483647), (.ofNat 2147483647)), (5, (.ofNat 0), (.ofNat 60)), (6, (.ofNat 0), (.ofNat 60))], [], [], [zc200,
    zc192,
    zc89,
    .inr (1, .inr (.inl 60))], []), 0, 0)])
noncomputable def c34_4_e : List Ct := [c35_4, c40_0, c44_0]
noncomputable def c34_4_p0 : PE := (7, [0, 1, 2], (8, [(0, (.ofNat 0), (.ofNat 60)), (1, (.negSucc 2147483647), (.ofNat 2147483647)), (2, (.ofNat 0), (.ofNat 60)), (3, (.ofNat 0), (.ofNat 60)), (4, (.ofNat 0), (.ofNat 60)), (5, (.negSucc 2147483647), (.ofNat 2147483647)), (6, (.ofNat 0), (.ofNat 60)), (7, (.ofNat 0), (.ofNat 60))], [], [.inr (.inl (some 0)), .inl (false, ((.ofNat 4), [])), .inl (false, ((.ofNat 0), [(4, (.ofNat 1))]))], [zc204,
    zc192,
    zc89,
    .inr (1, .inr (.inl 60))], []), symsL 4 0, some ((.ofNat 121), [(4, (.negSucc 0))]), 0, 0)
noncomputable def c34_4_pts : List PE := [c34_4_p0]
set_option maxRecDepth 100000 in
theorem c34_4_k : enCtF c34_4 c34_4_e (c34_4_pts ++ []) (none) (noF, noM, 128, 0, 4) 3000 = true := by decide +kernel
set_option maxRecDepth 100000 in
theorem c34_4_k0 : ptCtF c34_4 c34_4_e (c34_4_pts ++ []) (noF, noM, 128, 0, 4) 3000 c34_4_p0 = true := by decide +kernel
set_option maxRecDepth 100000 in
theorem c34_4_v : ValidC PPk c34_4 := ct_ok fpk ⟨noF_ok, noM_ok⟩ (d := 40) (ext := []) (pts := c34_4_pts) (env := c34_4_e) rfl (List.forall_mem_cons.mpr ⟨⟨c35_4_v, Nat.le_of_ble_eq_true rfl⟩, List.forall_mem_cons.mpr ⟨⟨c40_0_v, Nat.le_of_ble_eq_true rfl⟩, List.forall_mem_cons.mpr ⟨⟨c44_0_v, Nat.le_of_ble_eq_true rfl⟩, fun _ h => (by cases h)⟩⟩⟩) ext_nil (fun q h => (by cases h)) (enF c34_4_k) (List.forall_mem_cons.mpr ⟨ptF c34_4_k0, fun _ h => (by cases h)⟩)

noncomputable def c45_5 : Ct := (45, 42, (4, [(0, (.ofNat 0), (.ofNat 60)), (1, (.negSucc 2147483647), (.ofNat 2147483647)), (2, (.ofNat 0), (.ofNat 60)), (3, (.ofNat 0), (.ofNat 60))], [((.ofNat 1), [(0, (.negSucc 0)), (2, (.ofNat 1))])], [.inr (.inl (some 0)), .inl (false, ((.ofNat 3), []))], [zc191,
    zc192,
    zc89,
    .inr (1, .inr (.inl 60))], []),
  [((7, [(4, (.negSucc 2147483647), (.ofNat 2147483647)), (5, (.ofNat 0), (.ofNat 60)), (6, (.ofNat 0), (.ofNat 60))], [], [], [zc200,
    zc192,
    zc89,
    .inr (1, .inr (.inl 60))], []), 0, 0)])
noncomputable def c45_5_e : List Ct := [c34_4, c40_0, c43_0]
noncomputable def c45_5_pts : List PE := []
set_option maxRecDepth 100000 in
theorem c45_5_k : enCtF c45_5 c45_5_e (c45_5_pts ++ []) (none) noH 3000 = true := by decide +kernel
set_option maxRecDepth 100000 in
theorem c45_5_v : ValidC PPk c45_5 := ct_ok fpk noH_ok (d := 41) (ext := []) (pts := c45_5_pts) (env := c45_5_e) rfl (List.forall_mem_cons.mpr ⟨⟨c34_4_v, Nat.le_of_ble_eq_true rfl⟩, List.forall_mem_cons.mpr ⟨⟨c40_0_v, Nat.le_of_ble_eq_true rfl⟩, List.forall_mem_cons.mpr ⟨⟨c43_0_v, Nat.le_of_ble_eq_true rfl⟩, fun _ h => (by cases h)⟩⟩⟩) ext_nil (fun q h => (by cases h)) (enF c45_5_k) (fun _ h => (by cases h))

noncomputable def c41_10 : Ct := (41, 43, (5, [(0, (.negSucc 2147483647), (.ofNat 2147483647)), (1, (.ofNat 0), (.ofNat 60)), (2, (.negSucc 2147483647), (.ofNat 2147483647)), (3, (.ofNat 0), (.ofNat 60)), (4, (.ofNat 0), (.ofNat 60))], [((.ofNat 1), [(1, (.negSucc 0)), (3, (.ofNat 1))])], [.inr (.inl (some 0)), .inl (false, ((.ofNat 0), [(0, (.ofNat 1))])), .inl (false, ((.ofNat 3), []))], [zc198,
    zc192,
    zc89,
    .inr (1, .inr (.inl 60))], []),
  [((8, [(5, (.negSucc 2147483647), (.ofNat 2147483647)), (6, (.ofNat 0), (.ofNat 60)), (7, (.ofNat 0), (.ofNat 60))], [], [], [zc201,
    zc192,
    zc89,
    .inr (1, .inr (.inl 60))], []), 0, 0)])
noncomputable def c41_10_e : List Ct := [c42_0, c43_0, c44_0, c45_5]
noncomputable def c41_10_pts : List PE := []
set_option maxRecDepth 100000 in
theorem c41_10_k : enCtF c41_10 c41_10_e (c41_10_pts ++ []) (none) noH 3000 = true := by decide +kernel
set_option maxRecDepth 100000 in
theorem c41_10_v : ValidC PPk c41_10 := ct_ok fpk noH_ok (d := 42) (ext := []) (pts := c41_10_pts) (env := c41_10_e) rfl (List.forall_mem_cons.mpr ⟨⟨c42_0_v, Nat.le_of_ble_eq_true rfl⟩, List.forall_mem_cons.mpr ⟨⟨c43_0_v, Nat.le_of_ble_eq_true rfl⟩, List.forall_mem_cons.mpr ⟨⟨c44_0_v, Nat.le_of_ble_eq_true rfl⟩, List.forall_mem_cons.mpr ⟨⟨c45_5_v, Nat.le_of_ble_eq_true rfl⟩, fun _ h => (by cases h)⟩⟩⟩⟩) ext_nil (fun q h => (by cases h)) (enF c41_10_k) (fun _ h => (by cases h))

noncomputable def c41_11 : Ct := (41, 2, (6, [(0, (.ofNat 0), (.ofNat 60)), (1, (.negSucc 2147483647), (.ofNat 2147483647)), (2, (.ofNat 0), (.ofNat 60)), (3, (.ofNat 0), (.ofNat 60))], [], [.inr (.inl (some 0)), .inl (false, ((.negSucc 0), [])), .inl (false, ((.ofNat 3), []))], [zc191,
    zc196,
    zc133,
    .inr (1, .inr (.inl 60))], []),
  [((7, [(6, (.negSucc 2147483647), (.ofNat 2147483647))], [], [], [zc197,
    zc196,
    zc133,
    .inr (1, .inr (.inl 60))], []), 0, 0)])
noncomputable def c41_11_e : List Ct := [c43_0]
noncomputable def c41_11_pts : List PE := []
set_option maxRecDepth 100000 in
theorem c41_11_k : enCtF c41_11 c41_11_e (c41_11_pts ++ []) (none) noH 3000 = true := by decide +kernel
set_option maxRecDepth 100000 in
theorem c41_11_v : ValidC PPk c41_11 := ct_ok fpk noH_ok (d := 1) (ext := []) (pts := c41_11_pts) (env := c41_11_e) rfl (List.forall_mem_cons.mpr ⟨⟨c43_0_v, Nat.le_of_ble_eq_true rfl⟩, fun _ h => (by cases h)⟩) ext_nil (fun q h => (by cases h)) (enF c41_11_k) (fun _ h => (by cases h))

noncomputable def c39_5 : Ct := (39, 44, (4, [(0, (.ofNat 0), (.ofNat 60)), (1, (.negSucc 2147483647), (.ofNat 2147483647)), (2, (.ofNat 0), (.ofNat 60)), (3, (.ofNat 0), (.ofNat 60))], [], [.inr (.inl (some 0)), .inl (false, ((.ofNat 3), []))], [zc191,
    zc192,
    zc89,
    .inr (1, .inr (.inl 60))], []),
  [((7, [(4, (.negSucc 2147483647), (.ofNat 2147483647)), (5, (.ofNat 0), (.ofNat 60)), (6, (.ofNat 0), (.ofNat 60))], [], [], [zc200,
    zc192,
    zc89,
    .inr (1, .inr (.inl 60))], []), 0, 0)])
noncomputable def c39_5_e : List Ct := [c40_0, c41_10, c41_11, c44_0]
noncomputable def c39_5_p0 : PE := (13, [0, 1, 2, 3, 4], (7, [(0, (.ofNat 1), (.ofNat 60)), (1, (.negSucc 0), (.negSucc 0)), (2, (.ofNat 0), (.ofNat 60)), (3, (.ofNat 0), (.ofNat 60)), (4, (.ofNat 0), (.ofNat 127)), (5, (.ofNat 0), (.ofNat 60)), (6, (.ofNat 0), (.ofNat 59))], [((.ofNat 1), [(0, (.negSucc 0)), (6, (.ofNat 1))])], [.inr (.inl (some 0)), .inl (false, ((.ofNat 3), [])), .inl (false, ((.ofNat 0), [(2, (.ofNat 1))])), .inl (false, ((.ofNat 0), [(4, (.ofNat 1))])), .inl (false, ((.ofNat 0), [(5, (.ofNat 1))]))], [zc194,
    zc192,
    zc89,
    .inr (1, .inr (.inl 60))], []), symsL 4 0, some ((.ofNat 182), [(5, (.negSucc 0))]), 0, 0)
noncomputable def c39_5_p1 : PE := (13, [0, 1, 2, 3, 4], (6, [(0, (.ofNat 0), (.ofNat 60)), (1, (.negSucc 2147483647), (.ofNat 2147483647)), (2, (.ofNat 0), (.ofNat 60)), (3, (.ofNat 0), (.ofNat 60)), (4, (.ofNat 0), (.ofNat 60)), (5, (.ofNat 0), (.ofNat 60))], [], [.inr (.inl (some 0)), .inl (false, ((.ofNat 3), [])), .inl (false, ((.ofNat 0), [(2, (.ofNat 1))])), .inl (false, ((.negSucc 0), [])), .inl (false, ((.ofNat 0), [(4, (.ofNat 1))]))], [zc193,
    zc192,
    zc89,
    .inr (1, .inr (.inl 60))], []), symsL 4 0, some ((.ofNat 182), [(4, (.negSucc 0))]), 0, 0)
noncomputable def c39_5_p2 : PE := (71, [0, 1, 2, 3, 4, 5], (10, [(0, (.ofNat 0), (.ofNat 60)), (1, (.negSucc 2147483647), (.ofNat 2147483647)), (2, (.ofNat 0), (.ofNat 60)), (3, (.ofNat 0), (.ofNat 60)), (4, (.negSucc 0), (.ofNat 127)), (5, (.ofNat 0), (.ofNat 60)), (6, (.negSucc 0), (.ofNat 59)), (7, (.negSucc 2147483647), (.ofNat 2147483647)), (8, (.ofNat 0), (.ofNat 60)), (9, (.ofNat 0), (.ofNat 60))], [], [.inr (.inl (some 0)), .inl (false, ((.ofNat 3), [])), .inl (false, ((.ofNat 0), [(2, (.ofNat 1))])), .inl (false, ((.ofNat 0), [(4, (.ofNat 1))])), .inl (false, ((.ofNat 0), [(5, (.ofNat 1))])), .inl (false, ((.ofNat 0), [(6, (.ofNat 1))]))], [zc202,
    zc192,
    zc89,
    .inr (1, .inr (.inl 60))], []), symsL 4 0, some ((.ofNat 62), [(6, (.ofNat 1))]), 0, 0)
noncomputable def c39_5_pts : List PE := [c39_5_p0, c39_5_p1, c39_5_p2]
set_option maxRecDepth 100000 in
theorem c39_5_k : enCtF c39_5 c39_5_e (c39_5_pts ++ []) (none) (noF, noM, 2361183241434822615040, 0, 4) 3000 = true := by decide +kernel
set_option maxRecDepth 100000 in
theorem c39_5_k0 : ptCtF c39_5 c39_5_e (c39_5_pts ++ []) (noF, noM, 2361183241434822615040, 0, 4) 3000 c39_5_p0 = true := by decide +kernel
set_option maxRecDepth 100000 in
theorem c39_5_k1 : ptCtF c39_5 c39_5_e (c39_5_pts ++ []) (noF, noM, 2361183241434822615040, 0, 4) 3000 c39_5_p1 = true := by decide +kernel
set_option maxRecDepth 100000 in
theorem c39_5_k2 : ptCtF c39_5 c39_5_e (c39_5_pts ++ []) (noF, noM, 2361183241434822615040, 0, 4) 3000 c39_5_p2 = true := by decide +kernel
set_option maxRecDepth 100000 in
theorem c39_5_v : ValidC PPk c39_5 := ct_ok fpk ⟨noF_ok, noM_ok⟩ (d := 43) (ext := []) (pts := c39_5_pts) (env := c39_5_e) rfl (List.forall_mem_cons.mpr ⟨⟨c40_0_v, Nat.le_of_ble_eq_true rfl⟩, List.forall_mem_cons.mpr ⟨⟨c41_10_v, Nat.le_of_ble_eq_true rfl⟩, List.forall_mem_cons.mpr ⟨⟨c41_11_v, Nat.le_of_ble_eq_true rfl⟩, List.forall_mem_cons.mpr ⟨⟨c44_0_v, Nat.le_of_ble_eq_true rfl⟩, fun _ h => (by cases h)⟩⟩⟩⟩) ext_nil (fun q h => (by cases h)) (enF c39_5_k) (List.forall_mem_cons.mpr ⟨ptF c39_5_k0, List.forall_mem_cons.mpr ⟨ptF c39_5_k1, List.forall_mem_cons.mpr ⟨ptF c39_5_k2, fun _ h => (by cases h)⟩⟩⟩)

noncomputable def c38_5 : Ct := (38, 45, (4, [(0, (.ofNat 0), (.ofNat 60)), (1, (.negSucc 2147483647), (.ofNat 2147483647)), (2, (.ofNat 0), (.ofNat 60)), (3, (.ofNat 0), (.ofNat 60))], [], [.inr (.inl (some 0)), .inl (false, ((.ofNat 3), []))], [zc191,
    zc192,
    zc89,
    .inr (1, .inr (.inl 60))], []),
  [((7, [(4, (.negSucc 2147483647), (.ofNat 2147483647)), (5, (.ofNat 0), (.ofNat 60)), (6, (.ofNat 0), (.ofNat 60))], [], [], [zc200,
    zc192,
    zc89,
    .inr (1, .inr (.inl 60))], []), 0, 0)])
noncomputable def c38_5_e : List Ct := [c39_5, c40_0, c44_0]
noncomputable def c38_5_p0 : PE := (7, [0, 1, 2], (7, [(0, (.ofNat 0), (.ofNat 60)), (1, (.negSucc 2147483647), (.ofNat 2147483647)), (2, (.ofNat 0), (.ofNat 60)), (3, (.ofNat 0), (.ofNat 60)), (4, (.negSucc 2147483647), (.ofNat 2147483647)), (5, (.ofNat 0), (.ofNat 60)), (6, (.ofNat 0), (.ofNat 60))], [], [.inr (.inl (some 0)), .inl (false, ((.ofNat 3), [])), .inl (false, ((.ofNat 0), []))], [zc200,
    zc192,
    zc89,
    .inr (1, .inr (.inl 60))], []), symsL 4 0, some ((.ofNat 121), []), 0, 0)
noncomputable def c38_5_p1 : PE := (7, [0, 1, 2, 3], (9, [(0, (.ofNat 1), (.ofNat 60)), (1, (.negSucc 2147483647), (.ofNat 2147483647)), (2, (.ofNat 0), (.ofNat 60)), (3, (.ofNat 0), (.ofNat 60)), (4, (.ofNat 1), (.ofNat 60)), (5, (.ofNat 42), (.ofNat 47)), (6, (.negSucc 2147483647), (.ofNat 2147483647)), (7, (.ofNat 0), (.ofNat 60)), (8, (.ofNat 1), (.ofNat 60))], [], [.inr (.inl (some 0)), .inl (false, ((.ofNat 3), [])), .inl (false, ((.ofNat 0), [(4, (.ofNat 1))])), .inl (false, ((.ofNat 0), [(5, (.ofNat 1))]))], [zc203,
    zc192,
    zc89,
    .inr (1, .inr (.inl 60))], []), symsL 4 0, some ((.ofNat 121), [(4, (.negSucc 0))]), 0, 0)
noncomputable def c38_5_pts : List PE := [c38_5_p0, c38_5_p1]
set_option maxRecDepth 100000 in
theorem c38_5_k : enCtF c38_5 c38_5_e (c38_5_pts ++ []) (none) (noF, noM, 128, 0, 4) 3000 = true := by decide +kernel
set_option maxRecDepth 100000 in
theorem c38_5_k0 : ptCtF c38_5 c38_5_e (c38_5_pts ++ []) (noF, noM, 128, 0, 4) 3000 c38_5_p0 = true := by decide +kernel
set_option maxRecDepth 100000 in
theorem c38_5_k1 : ptCtF c38_5 c38_5_e (c38_5_pts ++ []) (noF, noM, 128, 0, 4) 3000 c38_5_p1 = true := by decide +kernel
set_option maxRecDepth 100000 in
theorem c38_5_v : ValidC PPk c38_5 := ct_ok fpk ⟨noF_ok, noM_ok⟩ (d := 44) (ext := []) (pts := c38_5_pts) (env := c38_5_e) rfl (List.forall_mem_cons.mpr ⟨⟨c39_5_v, Nat.le_of_ble_eq_true rfl⟩, List.forall_mem_cons.mpr ⟨⟨c40_0_v, Nat.le_of_ble_eq_true rfl⟩, List.forall_mem_cons.mpr ⟨⟨c44_0_v, Nat.le_of_ble_eq_true rfl⟩, fun _ h => (by cases h)⟩⟩⟩) ext_nil (fun q h => (by cases h)) (enF c38_5_k) (List.forall_mem_cons.mpr ⟨ptF c38_5_k0, List.forall_mem_cons.mpr ⟨ptF c38_5_k1, fun _ h => (by cases h)⟩⟩)

noncomputable def c37_5 : Ct := (37, 46, (4, [(0, (.ofNat 0), (.ofNat 60)), (1, (.negSucc 2147483647), (.ofNat 2147483647)), (2, (.ofNat 0), (.ofNat 60)), (3, (.ofNat 0), (.ofNat 60))], [], [.inr (.inl (some 0)), .inl (false, ((.ofNat 3), []))], [zc191,
    zc192,
    zc89,
    .inr (1, .inr (.inl 60))], []),
  [((7, [(4, (.negSucc 2147483647), (.ofNat 2147483647)), (5, (.ofNat 0), (.ofNat 60)), (6, (.ofNat 0), (.ofNat 60))], [], [], [zc200,
    zc192,
    zc89,
    .inr (1, .inr (.inl 60))], []), 0, 0)])
noncomputable def c37_5_e : List Ct := [c38_5, c40_0, c44_0]
noncomputable def c37_5_p0 : PE := (7, [0, 1, 2], (7, [(0, (.ofNat 0), (.ofNat 60)), (1, (.negSucc 2147483647), (.ofNat 2147483647)), (2, (.ofNat 0), (.ofNat 60)), (3, (.ofNat 0), (.ofNat 60)), (4, (.negSucc 2147483647), (.ofNat 2147483647)), (5, (.ofNat 0), (.ofNat 60)), (6, (.ofNat 0), (.ofNat 60))], [], [.inr (.inl (some 0)), .inl (false, ((.ofNat 3), [])), .inl (false, ((.ofNat 0), []))], [zc200,
    zc192,
    zc89,
    .inr (1, .inr (.inl 60))], []), symsL 4 0, some ((.ofNat 121), []), 0, 0)
noncomputable def c37_5_p1 : PE := (7, [0, 1, 2, 3], (9, [(0, (.ofNat 1), (.ofNat 60)), (1, (.negSucc 2147483647), (.ofNat 2147483647)), (2, (.ofNat 0), (.ofNat 60)), (3, (.ofNat 0), (.ofNat 60)), (4, (.ofNat 1), (.ofNat 60)), (5, (.ofNat 43), (.ofNat 45)), (6, (.negSucc 2147483647), (.ofNat 2147483647)), (7, (.ofNat 0), (.ofNat 60)), (8, (.ofNat 1), (.ofNat 60))], [], [.inr (.inl (some 0)), .inl (false, ((.ofNat 3), [])), .inl (false, ((.ofNat 0), [(4, (.ofNat 1))])), .inl (false, ((.ofNat 0), [(5, (.ofNat 1))]))], [zc203,
    zc192,
    zc89,
    .inr (1, .inr (.inl 60))], []), symsL 4 0, some ((.ofNat 121), [(4, (.negSucc 0))]), 0, 0)
noncomputable def c37_5_pts : List PE := [c37_5_p0, c37_5_p1]
set_option maxRecDepth 100000 in
theorem c37_5_k : enCtF c37_5 c37_5_e (c37_5_pts ++ []) (none) (noF, noM, 128, 0, 4) 3000 = true := by decide +kernel
set_option maxRecDepth 100000 in
theorem c37_5_k0 : ptCtF c37_5 c37_5_e (c37_5_pts ++ []) (noF, noM, 128, 0, 4) 3000 c37_5_p0 = true := by decide +kernel
set_option maxRecDepth 100000 in
theorem c37_5_k1 : ptCtF c37_5 c37_5_e (c37_5_pts ++ []) (noF, noM, 128, 0, 4) 3000 c37_5_p1 = true := by decide +kernel
set_option maxRecDepth 100000 in
theorem c37_5_v : ValidC PPk c37_5 := ct_ok fpk ⟨noF_ok, noM_ok⟩ (d := 45) (ext := []) (pts := c37_5_pts) (env := c37_5_e) rfl (List.forall_mem_cons.mpr ⟨⟨c38_5_v, Nat.le_of_ble_eq_true rfl⟩, List.forall_mem_cons.mpr ⟨⟨c40_0_v, Nat.le_of_ble_eq_true rfl⟩, List.forall_mem_cons.mpr ⟨⟨c44_0_v, Nat.le_of_ble_eq_true rfl⟩, fun _ h => (by cases h)⟩⟩⟩) ext_nil (fun q h => (by cases h)) (enF c37_5_k) (List.forall_mem_cons.mpr ⟨ptF c37_5_k0, List.forall_mem_cons.mpr ⟨ptF c37_5_k1, fun _ h => (by cases h)⟩⟩)

noncomputable def c36_5 : Ct := (36, 47, (4, [(0, (.ofNat 0), (.ofNat 60)), (1, (.negSucc 2147483647), (.ofNat 2147483647)), (2, (.ofNat 0), (.ofNat 60)), (3, (.ofNat 0), (.ofNat 60))], [], [.inr (.inl (some 0)), .inl (false, ((.ofNat 3), []))], [zc191,
    zc192,
    zc89,
    .inr (1, .inr (.inl 60))], []),
  [((7, [(4, (.negSucc 2147483647), (.ofNat 2147483647)), (5, (.ofNat 0), (.ofNat 60)), (6, (.ofNat 0), (.ofNat 60))], [], [], [zc200,
    zc192,
    zc89,
    .inr (1, .inr (.inl 60))], []), 0, 0)])
noncomputable def c36_5_e : List Ct := [c37_5, c40_0, c44_0]
noncomputable def c36_5_pts : List PE := []
set_option maxRecDepth 100000 in
theorem c36_5_k : enCtF c36_5 c36_5_e (c36_5_pts ++ []) (none) noH 3000 = true := by decide +kernel
set_option maxRecDepth 100000 in
theorem c36_5_v : ValidC PPk c36_5 := ct_ok fpk noH_ok (d := 46) (ext := []) (pts := c36_5_pts) (env := c36_5_e) rfl (List.forall_mem_cons.mpr ⟨⟨c37_5_v, Nat.le_of_ble_eq_true rfl⟩, List.forall_mem_cons.mpr ⟨⟨c40_0_v, Nat.le_of_ble_eq_true rfl⟩, List.forall_mem_cons.mpr ⟨⟨c44_0_v, Nat.le_of_ble_eq_true rfl⟩, fun _ h => (by cases h)⟩⟩⟩) ext_nil (fun q h => (by cases h)) (enF c36_5_k) (fun _ h => (by cases h))

noncomputable def c35_5 : Ct := (35, 48, (4, [(0, (.ofNat 0), (.ofNat 60)), (1, (.negSucc 2147483647), (.ofNat 2147483647)), (2, (.ofNat 0), (.ofNat 60)), (3, (.ofNat 0), (.ofNat 60))], [], [.inr (.inl (some 0)), .inl (false, ((.ofNat 3), []))], [zc191,
    zc192,
    zc89,
    .inr (1, .inr (.inl 60))], []),
  [((7, [(4, (.negSucc 2147483647), (.ofNat 2147483647)), (5, (.ofNat 0), (.ofNat 60)), (6, (.ofNat 0), (.ofNat 60))], [], [], [zc200,
    zc192,
    zc89,
    .inr (1, .inr (.inl 60))], []), 0, 0)])
noncomputable def c35_5_e : List Ct := [c36_5, c40_0, c44_0]
noncomputable def c35_5_p0 : PE := (7, [0, 1, 2], (8, [(0, (.ofNat 0), (.ofNat 60)), (1, (.negSucc 2147483647), (.ofNat 2147483647)), (2, (.ofNat 0), (.ofNat 60)), (3, (.ofNat 0), (.ofNat 60)), (4, (.ofNat 0), (.ofNat 60)), (5, (.negSucc 2147483647), (.ofNat 2147483647)), (6, (.ofNat 0), (.ofNat 60)), (7, (.ofNat 0), (.ofNat 60))], [], [.inr (.inl (some 0)), .inl (false, ((.ofNat 3), [])), .inl (false, ((.ofNat 0), [(4, (.ofNat 1))]))], [zc204,
    zc192,
    zc89,
    .inr (1, .inr (.inl 60))], []), symsL 4 0, some ((.ofNat 121), [(4, (.negSucc 0))]), 0, 0)
noncomputable def c35_5_pts : List PE := [c35_5_p0]
set_option maxRecDepth 100000 in
theorem c35_5_k : enCtF c35_5 c35_5_e (c35_5_pts ++ []) (none) (noF, noM, 128, 0, 4) 3000 = true := by decide +kernel
set_option maxRecDepth 100000 in
theorem c35_5_k0 : ptCtF c35_5 c35_5_e (c35_5_pts ++ []) (noF, noM, 128, 0, 4) 3000 c35_5_p0 = true := by decide +kernel
set_option maxRecDepth 100000 in
theorem c35_5_v : ValidC PPk c35_5 := ct_ok fpk ⟨noF_ok, noM_ok⟩ (d := 47) (ext := []) (pts := c35_5_pts) (env := c35_5_e) rfl (List.forall_mem_cons.mpr ⟨⟨c36_5_v, Nat.le_of_ble_eq_true rfl⟩, List.forall_mem_cons.mpr ⟨⟨c40_0_v, Nat.le_of_ble_eq_true rfl⟩, List.forall_mem_cons.mpr ⟨⟨c44_0_v, Nat.le_of_ble_eq_true rfl⟩, fun _ h => (by cases h)⟩⟩⟩) ext_nil (fun q h => (by cases h)) (enF c35_5_k) (List.forall_mem_cons.mpr ⟨ptF c35_5_k0, fun _ h => (by cases h)⟩)

noncomputable def c34_5 : Ct := (34, 49, (4, [(0, (.ofNat 0), (.ofNat 60)), (1, (.negSucc 2147483647), (.ofNat 2147483647)), (2, (.ofNat 0), (.ofNat 60)), (3, (.ofNat 0), (.ofNat 60))], [], [.inr (.inl (some 0)), .inl (false, ((.ofNat 3), []))], [zc191,
    zc192,
    zc89,
    .inr (1, .inr (.inl 60))], []),
  [((7, [(4, (.negSucc 2147483647), (.ofNat 2147483647)), (5, (.ofNat 0), (.ofNat 60)), (6, (.ofNat 0), (.ofNat 60))], [], [], [zc200,
    zc192,
    zc89,
    .inr (1, .inr (.inl 60))], []), 0, 0)])
noncomputable def c34_5_e : List Ct := [c35_5, c40_0, c44_0]
noncomputable def c34_5_p0 : PE := (7, [0, 1, 2], (8, [(0, (.ofNat 0), (.ofNat 60)), (1, (.negSucc 2147483647), (.ofNat 2147483647)), (2, (.ofNat 0), (.ofNat 60)), (3, (.ofNat 0), (.ofNat 60)), (4, (.ofNat 0), (.ofNat 60)), (5, (.negSucc 2147483647), (.ofNat 2147483647)), (6, (.ofNat 0), (.ofNat 60)), (7, (.ofNat 0), (.ofNat 60))], [], [.inr (.inl (some 0)), .inl (false, ((.ofNat 3), [])), .inl (false, ((.ofNat 0), [(4, (.ofNat 1))]))], [zc204,
    zc192,
    zc89,
    .inr (1, .inr (.inl 60))], []), symsL 4 0, some ((.ofNat 121), [(4, (.negSucc 0))]), 0, 0)
noncomputable def c34_5_pts : List PE := [c34_5_p0]
set_option maxRecDepth 100000 in
theorem c34_5_k : enCtF c34_5 c34_5_e (c34_5_pts ++ []) (none) (noF, noM, 128, 0, 4) 3000 = true := by decide +kernel
set_option maxRecDepth 100000 in
theorem c34_5_k0 : ptCtF c34_5 c34_5_e (c34_5_pts ++ []) (noF, noM, 128, 0, 4) 3000 c34_5_p0 = true := by decide +kernel
set_option maxRecDepth 100000 in
theorem c34_5_v : ValidC PPk c34_5 := ct_ok fpk ⟨noF_ok, noM_ok⟩ (d := 48) (ext := []) (pts := c34_5_pts) (env := c34_5_e) rfl (List.forall_mem_cons.mpr ⟨⟨c35_5_v, Nat.le_of_ble_eq_true rfl⟩, List.forall_mem_cons.mpr ⟨⟨c40_0_v, Nat.le_of_ble_eq_true rfl⟩, List.forall_mem_cons.mpr ⟨⟨c44_0_v, Nat.le_of_ble_eq_true rfl⟩, fun _ h => (by cases h)⟩⟩⟩) ext_nil (fun q h => (by cases h)) (enF c34_5_k) (List.forall_mem_cons.mpr ⟨ptF c34_5_k0, fun _ h => (by cases h)⟩)

noncomputable def c45_6 : Ct := (45, 50, (4, [(0, (.ofNat 0), (.ofNat 60)), (1, (.negSucc 2147483647), (.ofNat 2147483647)), (2, (.ofNat 0), (.ofNat 60)), (3, (.ofNat 0), (.ofNat 60))], [((.ofNat 1), [(0, (.negSucc 0)), (2, (.ofNat 1))])], [.inr (.inl (some 0)), .inl (false, ((.ofNat 2), []))], [zc191,
    zc192,
    zc89,
    .inr (1, .inr (.inl 60))], []),
  [((7, [(4, (.negSucc 2147483647), (.ofNat 2147483647)), (5, (.ofNat 0), (.ofNat 60)), (6, (.ofNat 0), (.ofNat 60))], [], [], [zc200,
    zc192,
    zc89,
    .inr (1, .inr (.inl 60))], []), 0, 0)])
noncomputable def c45_6_e : List Ct := [c34_5, c40_0, c43_0]
noncomputable def c45_6_pts : List PE := []
set_option maxRecDepth 100000 in
theorem c45_6_k : enCtF c45_6 c45_6_e (c45_6_pts ++ []) (none) noH 3000 = true := by decide +kernel
set_option maxRecDepth 100000 in
theorem c45_6_v : ValidC PPk c45_6 := ct_ok fpk noH_ok (d := 49) (ext := []) (pts := c45_6_pts) (env := c45_6_e) rfl (List.forall_mem_cons.mpr ⟨⟨c34_5_v, Nat.le_of_ble_eq_true rfl⟩, List.forall_mem_cons.mpr ⟨⟨c40_0_v, Nat.le_of_ble_eq_true rfl⟩, List.forall_mem_cons.mpr ⟨⟨c43_0_v, Nat.le_of_ble_eq_true rfl⟩, fun _ h => (by cases h)⟩⟩⟩) ext_nil (fun q h => (by cases h)) (enF c45_6_k) (fun _ h => (by cases h))

noncomputable def c41_12 : Ct := (41, 51, (5, [(0, (.negSucc 2147483647), (.ofNat 2147483647)), (1, (.ofNat 0), (.ofNat 60)), (2, (.negSucc 2147483647), (.ofNat 2147483647)), (3, (.ofNat 0), (.ofNat 60)), (4, (.ofNat 0), (.ofNat 60))], [((.ofNat 1), [(1, (.negSucc 0)), (3, (.ofNat 1))])], [.inr (.inl (some 0)), .inl (false, ((.ofNat 0), [(0, (.ofNat 1))])), .inl (false, ((.ofNat 2), []))], [zc198,
    zc192,
    zc89,
    .inr (1, .inr (.inl 60))], []),
  [((8, [(5, (.negSucc 2147483647), (.ofNat 2147483647)), (6, (.ofNat 0), (.ofNat 60)), (7, (.ofNat 0), (.ofNat 60))], [], [], [zc201,
    zc192,
    zc89,
    .inr (1, .inr (.inl 60))], []), 0, 0)])
noncomputable def c41_12_e : List Ct := [c42_0, c43_0, c44_0, c45_6]
noncomputable def c41_12_pts : List PE := []
set_option maxRecDepth 100000 in
theorem c41_12_k : enCtF c41_12 c41_12_e (c41_12_pts ++ []) (none) noH 3000 = true := by decide +kernel
set_option maxRecDepth 100000 in
theorem c41_12_v : ValidC PPk c41_12 := ct_ok fpk noH_ok (d := 50) (ext := []) (pts := c41_12_pts) (env := c41_12_e) rfl (List.forall_mem_cons.mpr ⟨⟨c42_0_v, Nat.le_of_ble_eq_true rfl⟩, List.forall_mem_cons.mpr ⟨⟨c43_0_v, Nat.le_of_ble_eq_true rfl⟩, List.forall_mem_cons.mpr ⟨⟨c44_0_v, Nat.le_of_ble_eq_true rfl⟩, List.forall_mem_cons.mpr ⟨⟨c45_6_v, Nat.le_of_ble_eq_true rfl⟩, fun _ h => (by cases h)⟩⟩⟩⟩) ext_nil (fun q h => (by cases h)) (enF c41_12_k) (fun _ h => (by cases h))

noncomputable def c41_13 : Ct := (41, 2, (6, [(0, (.ofNat 0), (.ofNat 60)), (1, (.negSucc 2147483647), (.ofNat 2147483647)), (2, (.ofNat 0), (.ofNat 60)), (3, (.ofNat 0), (.ofNat 60))], [], [.inr (.inl (some 0)), .inl (false, ((.negSucc 0), [])), .inl (false, ((.ofNat 2), []))], [zc191,
    zc196,
    zc133,
    .inr (1, .inr (.inl 60))], []),
  [((7, [(6, (.negSucc 2147483647), (.ofNat 2147483647))], [], [], [zc197,
    zc196,
    zc133,
    .inr (1, .inr (.inl 60))], []), 0, 0)])
noncomputable def c41_13_e : List Ct := [c43_0]
noncomputable def c41_13_pts : List PE := []
set_option maxRecDepth 100000 in
theorem c41_13_k : enCtF c41_13 c41_13_e (c41_13_pts ++ []) (none) noH 3000 = true := by decide +kernel
set_option maxRecDepth 100000 in
theorem c41_13_v : ValidC PPk c41_13 := ct_ok fpk noH_ok (d := 1) (ext := []) (pts := c41_13_pts) (env := c41_13_e) rfl (List.forall_mem_cons.mpr ⟨⟨c43_0_v, Nat.le_of_ble_eq_true rfl⟩, fun _ h => (by cases h)⟩) ext_nil (fun q h => (by cases h)) (enF c41_13_k) (fun _ h => (by cases h))

noncomputable def c39_6 : Ct := (39, 52, (4, [(0, (.ofNat 0), (.ofNat 60)), (1, (.negSucc 2147483647), (.ofNat 2147483647)), (2, (.ofNat 0), (.ofNat 60)), (3, (.ofNat 0), (.ofNat 60))], [], [.inr (.inl (some 0)), .inl (false, ((.ofNat 2), []))], [zc191,
    zc192,
    zc89,
    .inr (1, .inr (.inl 60))], []),
  [((7, [(4, (.negSucc 2147483647), (.ofNat 2147483647)), (5, (.ofNat 0), (.ofNat 60)), (6, (.ofNat 0), (.ofNat 60))], [], [], [zc200,
    zc192,
    zc89,
    .inr (1, .inr (.inl 60))], []), 0, 0)])
noncomputable def c39_6_e : List Ct := [c40_0, c41_12, c41_13, c44_0]
noncomputable def c39_6_p0 : PE := (13, [0, 1, 2, 3, 4], (7, [(0, (.ofNat 1), (.ofNat 60)), (1, (.negSucc 0), (.negSucc 0)), (2, (.ofNat 0), (.ofNat 60)), (3, (.ofNat 0), (.ofNat 60)), (4, (.ofNat 0), (.ofNat 127)), (5, (.ofNat 0), (.ofNat 60)), (6, (.ofNat 0), (.ofNat 59))], [((.ofNat 1), [(0, (.negSucc 0)), (6, (.ofNat 1))])], [.inr (.inl (some 0)), .inl (false, ((.ofNat 2), [])), .inl (false, ((.ofNat 0), [(2, (.ofNat 1))])), .inl (false, ((.ofNat 0), [(4, (.ofNat 1))])), .inl (false, ((.ofNat 0), [(5, (.ofNat 1))]))], [zc194,
    zc192,
    zc89,
    .inr (1, .inr (.inl 60))], []), symsL 4 0, some ((.ofNat 182), [(5, (.negSucc 0))]), 0, 0)
noncomputable def c39_6_p1 : PE := (13, [0, 1, 2, 3, 4], (6, [(0, (.ofNat 0), (.ofNat 60)), (1, (.negSucc 2147483647), (.ofNat 2147483647)), (2, (.ofNat 0), (.ofNat 60)), (3, (.ofNat 0), (.ofNat 60)), (4, (.ofNat 0), (.ofNat 60)), (5, (.ofNat 0), (.ofNat 60))], [], [.inr (.inl (some 0)), .inl (false, ((.ofNat 2), [])), .inl (false, ((.ofNat 0), [(2, (.ofNat 1))])), .inl (false, ((.negSucc 0), [])), .inl (false, ((.ofNat 0), [(4, (.ofNat 1))]))], [zc193,
    zc192,
    zc89,
    .inr (1, .inr (.inl 60))], []), symsL 4 0, some ((.ofNat 182), [(4, (.negSucc 0))]), 0, 0)
noncomputable def c39_6_p2 : PE := (71, [0, 1, 2, 3, 4, 5], (10, [(0, (.ofNat 0), (.ofNat 60)), (1, (.negSucc 2147483647), (.ofNat 2147483647)), (2, (.ofNat 0), (.ofNat 60)), (3, (.ofNat 0), (.ofNat 60)), (4, (.negSucc 0), (.ofNat 127)), (5, (.ofNat 0), (.ofNat 60)), (6, (.negSucc 0), (.ofNat 59)), (7, (.negSucc 2147483647), (.ofNat 2147483647)), (8, (.ofNat 0), (.ofNat 60)), (9, (.ofNat 0), (.ofNat 60))], [], [.inr (.inl (some 0)), .inl (false, ((.ofNat 2), [])), .inl (false, ((.ofNat 0), [(2, (.ofNat 1))])), .inl (false, ((.ofNat 0), [(4, (.ofNat 1))])), .inl (false, ((.ofNat 0), [(5, (.ofNat 1))])), .inl (false, ((.ofNat 0), [(6, (.ofNat 1))]))], [zc202,
    zc192,
    zc89,
    .inr (1, .inr (.inl 60))], []), symsL 4 0, some ((.ofNat 62), [(6, (.ofNat 1))]), 0, 0)
noncomputable def c39_6_pts : List PE := [c39_6_p0, c39_6_p1, c39_6_p2]
set_option maxRecDepth 100000 in
theorem c39_6_k : enCtF c39_6 c39_6_e (c39_6_pts ++ []) (none) (noF, noM, 2361183241434822615040, 0, 4) 3000 = true := by decide +kernel
set_option maxRecDepth 100000 in
theorem c39_6_k0 : ptCtF c39_6 c39_6_e (c39_6_pts ++ []) (noF, noM, 2361183241434822615040, 0, 4) 3000 c39_6_p0 = true := by decide +kernel
set_option maxRecDepth 100000 in
theorem c39_6_k1 : ptCtF c39_6 c39_6_e (c39_6_pts ++ []) (noF, noM, 2361183241434822615040, 0, 4) 3000 c39_6_p1 = true := by decide +kernel
set_option maxRecDepth 100000 in
theorem c39_6_k2 : ptCtF c39_6 c39_6_e (c39_6_pts ++ []) (noF, noM, 2361183241434822615040, 0, 4) 3000 c39_6_p2 = true := by decide +kernel
set_option maxRecDepth 100000 in
theorem c39_6_v : ValidC PPk c39_6 := ct_ok fpk ⟨noF_ok, noM_ok⟩ (d := 51) (ext := []) (pts := c39_6_pts) (env := c39_6_e) rfl (List.forall_mem_cons.mpr ⟨⟨c40_0_v, Nat.le_of_ble_eq_true rfl⟩, List.forall_mem_cons.mpr ⟨⟨c41_12_v, Nat.le_of_ble_eq_true rfl⟩, List.forall_mem_cons.mpr ⟨⟨c41_13_v, Nat.le_of_ble_eq_true rfl⟩, List.forall_mem_cons.mpr ⟨⟨c44_0_v, Nat.le_of_ble_eq_true rfl⟩, fun _ h => (by cases h)⟩⟩⟩⟩) ext_nil (fun q h => (by cases h)) (enF c39_6_k) (List.forall_mem_cons.mpr ⟨ptF c39_6_k0, List.forall_mem_cons.mpr ⟨ptF c39_6_k1, List.forall_mem_cons.mpr ⟨ptF c39_6_k2, fun _ h => (by cases h)⟩⟩⟩)

noncomputable def c38_6 : Ct := (38, 53, (4, [(0, (.ofNat 0), (.ofNat 60)), (1, (.negSucc 2147483647), (.ofNat 2147483647)), (2, (.ofNat 0), (.ofNat 60)), (3, (.ofNat 0), (.ofNat 60))], [], [.inr (.inl (some 0)), .inl (false, ((.ofNat 2), []))], [zc191,
    zc192,
    zc89,
    .inr (1, .inr (.inl 60))], []),
  [((7, [(4, (.negSucc 2147483647), (.ofNat 2147483647)), (5, (.ofNat 0), (.ofNat 60)), (6, (.ofNat 0), (.ofNat 60))], [], [], [zc200,
    zc192,
    zc89,
    .inr (1, .inr (.inl 60))], []), 0, 0)])
noncomputable def c38_6_e : List Ct := [c39_6, c40_0, c44_0]
noncomputable def c38_6_p0 : PE := (7, [0, 1, 2], (7, [(0, (.ofNat 0), (.ofNat 60)), (1, (.negSucc 2147483647), (.ofNat 2147483647)), (2, (.ofNat 0), (.ofNat 60)), (3, (.ofNat 0), (.ofNat 60)), (4, (.negSucc 2147483647), (.ofNat 2147483647)), (5, (.ofNat 0), (.ofNat 60)), (6, (.ofNat 0), (.ofNat 60))], [], [.inr (.inl (some 0)), .inl (false, ((.ofNat 2), [])), .inl (false, ((.ofNat 0), []))], [zc200,
    zc192,
    zc89,
    .inr (1, .inr (.inl 60))], []), symsL 4 0, some ((.ofNat 121), []), 0, 0)
noncomputable def c38_6_p1 : PE := (7, [0, 1, 2, 3], (9, [(0, (.ofNat 1), (.ofNat 60)), (1, (.negSucc 2147483647), (.ofNat 2147483647)), (2, (.ofNat 0), (.ofNat 60)), (3, (.ofNat 0), (.ofNat 60)), (4, (.ofNat 1), (.ofNat 60)), (5, (.ofNat 42), (.ofNat 47)), (6, (.negSucc 2147483647), (.ofNat 2147483647)), (7, (.ofNat 0), (.ofNat 60)), (8, (.ofNat 1), (.ofNat 60))], [], [.inr (.inl (some 0)), .inl (false, ((.ofNat 2), [])), .inl (false, ((.ofNat 0), [(4, (.ofNat 1))])), .inl (false, ((.ofNat 0), [(5, (.ofNat 1))]))], [zc203,
    zc192,
    zc89,
    .inr (1, .inr (.inl 60))], []), symsL 4 0, some ((.ofNat 121), [(4, (.negSucc 0))]), 0, 0)
noncomputable def c38_6_pts : List PE := [c38_6_p0, c38_6_p1]
set_option maxRecDepth 100000 in
theorem c38_6_k : enCtF c38_6 c38_6_e (c38_6_pts ++ []) (none) (noF, noM, 128, 0, 4) 3000 = true := by decide +kernel
set_option maxRecDepth 100000 in
theorem c38_6_k0 : ptCtF c38_6 c38_6_e (c38_6_pts ++ []) (noF, noM, 128, 0, 4) 3000 c38_6_p0 = true := by decide +kernel
set_option maxRecDepth 100000 in
theorem c38_6_k1 : ptCtF c38_6 c38_6_e (c38_6_pts ++ []) (noF, noM, 128, 0, 4) 3000 c38_6_p1 = true := by decide +kernel
set_option maxRecDepth 100000 in
theorem c38_6_v : ValidC PPk c38_6 := ct_ok fpk ⟨noF_ok, noM_ok⟩ (d := 52) (ext := []) (pts := c38_6_pts) (env := c38_6_e) rfl (List.forall_mem_cons.mpr ⟨⟨c39_6_v, Nat.le_of_ble_eq_true rfl⟩, List.forall_mem_cons.mpr ⟨⟨c40_0_v, Nat.le_of_ble_eq_true rfl⟩, List.forall_mem_cons.mpr ⟨⟨c44_0_v, Nat.le_of_ble_eq_true rfl⟩, fun _ h => (by cases h)⟩⟩⟩) ext_nil (fun q h => (by cases h)) (enF c38_6_k) (List.forall_mem_cons.mpr ⟨ptF c38_6_k0, List.forall_mem_cons.mpr ⟨ptF c38_6_k1, fun _ h => (by cases h)⟩⟩)

noncomputable def c37_6 : Ct := (37, 54, (4, [(0, (.ofNat 0), (.ofNat 60)), (1, (.negSucc 2147483647), (.ofNat 2147483647)), (2, (.ofNat 0), (.ofNat 60)), (3, (.ofNat 0), (.ofNat 60))], [], [.inr (.inl (some 0)), .inl (false, ((.ofNat 2), []))], [zc191,
    zc192,
    zc89,
    .inr (1, .inr (.inl 60))], []),
  [((7, [(4, (.negSucc 2147483647), (.ofNat 2147483647)), (5, (.ofNat 0), (.ofNat 60)), (6, (.ofNat 0), (.ofNat 60))], [], [], [zc200,
    zc192,
    zc89,
    .inr (1, .inr (.inl 60))], []), 0, 0)])
noncomputable def c37_6_e : List Ct := [c38_6, c40_0, c44_0]
noncomputable def c37_6_p0 : PE := (7, [0, 1, 2], (7, [(0, (.ofNat 0), (.ofNat 60)), (1, (.negSucc 2147483647), (.ofNat 2147483647)), (2, (.ofNat 0), (.ofNat 60)), (3, (.ofNat 0), (.ofNat 60)), (4, (.negSucc 2147483647), (.ofNat 2147483647)), (5, (.ofNat 0), (.ofNat 60)), (6, (.ofNat 0), (.ofNat 60))], [], [.inr (.inl (some 0)), .inl (false, ((.ofNat 2), [])), .inl (false, ((.ofNat 0), []))], [zc200,
    zc192,
    zc89,
    .inr (1, .inr (.inl 60))], []), symsL 4 0, some ((.ofNat 121), []), 0, 0)
noncomputable def c37_6_p1 : PE := (7, [0, 1, 2, 3], (9, [(0, (.ofNat 1), (.ofNat 60)), (1, (.negSucc 2147483647), (.ofNat 2147483647)), (2, (.ofNat 0), (.ofNat 60)), (3, (.ofNat 0), (.ofNat 60)), (4, (.ofNat 1), (.ofNat 60)), (5, (.ofNat 43), (.ofNat 45)), (6, (.negSucc 2147483647), (.ofNat 2147483647)), (7, (.ofNat 0), (.ofNat 60)), (8, (.ofNat 1), (.ofNat 60))], [], [.inr (.inl (some 0)), .inl (false, ((.ofNat 2), [])), .inl (false, ((.ofNat 0), [(4, (.ofNat 1))])), .inl (false, ((.ofNat 0), [(5, (.ofNat 1))]))], [zc203,
    zc192,
    zc89,
    .inr (1, .inr (.inl 60))], []), symsL 4 0, some ((.ofNat 121), [(4, (.negSucc 0))]), 0, 0)
noncomputable def c37_6_pts : List PE := [c37_6_p0, c37_6_p1]
set_option maxRecDepth 100000 in
theorem c37_6_k : enCtF c37_6 c37_6_e (c37_6_pts ++ []) (none) (noF, noM, 128, 0, 4) 3000 = true := by decide +kernel
set_option maxRecDepth 100000 in
theorem c37_6_k0 : ptCtF c37_6 c37_6_e (c37_6_pts ++ []) (noF, noM, 128, 0, 4) 3000 c37_6_p0 = true := by decide +kernel
set_option maxRecDepth 100000 in
theorem c37_6_k1 : ptCtF c37_6 c37_6_e (c37_6_pts ++ []) (noF, noM, 128, 0, 4) 3000 c37_6_p1 = true := by decide +kernel
set_option maxRecDepth 100000 in
theorem c37_6_v : ValidC PPk c37_6 := ct_ok fpk ⟨noF_ok, noM_ok⟩ (d := 53) (ext := []) (pts := c37_6_pts) (env := c37_6_e) rfl (List.forall_mem_cons.mpr ⟨⟨c38_6_v, Nat.le_of_ble_eq_true rfl⟩, List.forall_mem_cons.mpr ⟨⟨c40_0_v, Nat.le_of_ble_eq_true rfl⟩, List.forall_mem_cons.mpr ⟨⟨c44_0_v, Nat.le_of_ble_eq_true rfl⟩, fun _ h => (by cases h)⟩⟩⟩) ext_nil (fun q h => (by cases h)) (enF c37_6_k) (List.forall_mem_cons.mpr ⟨ptF c37_6_k0, List.forall_mem_cons.mpr ⟨ptF c37_6_k1, fun _ h => (by cases h)⟩⟩)

noncomputable def c36_6 : Ct := (36, 55, (4, [(0, (.ofNat 0), (.ofNat 60)), (1, (.negSucc 2147483647), (.ofNat 2147483647)), (2, (.ofNat 0), (.ofNat 60)), (3, (.ofNat 0), (.ofNat 60))], [], [.inr (.inl (some 0)), .inl (false, ((.ofNat 2), []))], [zc191,
    zc192,
    zc89,
    .inr (1, .inr (.inl 60))], []),
  [((7, [(4, (.negSucc 2147483647), (.ofNat 2147483647)), (5, (.ofNat 0), (.ofNat 60)), (6, (.ofNat 0), (.ofNat 60))], [], [], [zc200,
    zc192,
    zc89,
    .inr (1, .inr (.inl 60))], []), 0, 0)])
noncomputable def c36_6_e : List Ct := [c37_6, c40_0, c44_0]
noncomputable def c36_6_pts : List PE := []
set_option maxRecDepth 100000 in
theorem c36_6_k : enCtF c36_6 c36_6_e (c36_6_pts ++ []) (none) noH 3000 = true := by decide +kernel
set_option maxRecDepth 100000 in
theorem c36_6_v : ValidC PPk c36_6 := ct_ok fpk noH_ok (d := 54) (ext := []) (pts := c36_6_pts) (env := c36_6_e) rfl (List.forall_mem_cons.mpr ⟨⟨c37_6_v, Nat.le_of_ble_eq_true rfl⟩, List.forall_mem_cons.mpr ⟨⟨c40_0_v, Nat.le_of_ble_eq_true rfl⟩, List.forall_mem_cons.mpr ⟨⟨c44_0_v, Nat.le_of_ble_eq_true rfl⟩, fun _ h => (by cases h)⟩⟩⟩) ext_nil (fun q h => (by cases h)) (enF c36_6_k) (fun _ h => (by cases h))

noncomputable def c35_6 : Ct := (35, 56, (4, [(0, (.ofNat 0), (.ofNat 60)), (1, (.negSucc 2147483647), (.ofNat 2147483647)), (2, (.ofNat 0), (.ofNat 60)), (3, (.ofNat 0), (.ofNat 60))], [], [.inr (.inl (some 0)), .inl (false, ((.ofNat 2), []))], [zc191,
    zc192,
    zc89,
    .inr (1, .inr (.inl 60))], []),
  [((7, [(4, (.negSucc 2147483647), (.ofNat 2147483647)), (5, (.ofNat 0), (.ofNat 60)), (6, (.ofNat 0), (.ofNat 60))], [], [], [zc200,
    zc192,
    zc89,
    .inr (1, .inr (.inl 60))], []), 0, 0)])
noncomputable def c35_6_e : List Ct := [c36_6, c40_0, c44_0]
noncomputable def c35_6_p0 : PE := (7, [0, 1, 2], (8, [(0, (.ofNat 0), (.ofNat 60)), (1, (.negSucc 2147483647), (.ofNat 2147483647)), (2, (.ofNat 0), (.ofNat 60)), (3, (.ofNat 0), (.ofNat 60)), (4, (.ofNat 0), (.ofNat 60)), (5, (.negSucc 2147483647), (.ofNat 2147483647)), (6, (.ofNat 0), (.ofNat 60)), (7, (.ofNat 0), (.ofNat 60))], [], [.inr (.inl (some 0)), .inl (false, ((.ofNat 2), [])), .inl (false, ((.ofNat 0), [(4, (.ofNat 1))]))], [zc204,
    zc192,
    zc89,
    .inr (1, .inr (.inl 60))], []), symsL 4 0, some ((.ofNat 121), [(4, (.negSucc 0))]), 0, 0)
noncomputable def c35_6_pts : List PE := [c35_6_p0]
set_option maxRecDepth 100000 in
theorem c35_6_k : enCtF c35_6 c35_6_e (c35_6_pts ++ []) (none) (noF, noM, 128, 0, 4) 3000 = true := by decide +kernel
set_option maxRecDepth 100000 in
theorem c35_6_k0 : ptCtF c35_6 c35_6_e (c35_6_pts ++ []) (noF, noM, 128, 0, 4) 3000 c35_6_p0 = true := by decide +kernel
set_option maxRecDepth 100000 in
theorem c35_6_v : ValidC PPk c35_6 := ct_ok fpk ⟨noF_ok, noM_ok⟩ (d := 55) (ext := []) (pts := c35_6_pts) (env := c35_6_e) rfl (List.forall_mem_cons.mpr ⟨⟨c36_6_v, Nat.le_of_ble_eq_true rfl⟩, List.forall_mem_cons.mpr ⟨⟨c40_0_v, Nat.le_of_ble_eq_true rfl⟩, List.forall_mem_cons.mpr ⟨⟨c44_0_v, Nat.le_of_ble_eq_true rfl⟩, fun _ h => (by cases h)⟩⟩⟩) ext_nil (fun q h => (by cases h)) (enF c35_6_k) (List.forall_mem_cons.mpr ⟨ptF c35_6_k0, fun _ h => (by cases h)⟩)

noncomputable def c34_6 : Ct := (34, 57, (4, [(0, (.ofNat 0), (.ofNat 60)), (1, (.negSucc 2147483647), (.ofNat 2147483647)), (2, (.ofNat 0), (.ofNat 60)), (3, (.ofNat 0), (.ofNat 60))], [], [.inr (.inl (some 0)), .inl (false, ((.ofNat 2), []))], [zc191,
    zc192,
    zc89,
    .inr (1, .inr (.inl 60))], []),
  [((7, [(4, (.negSucc 2147483647), (.ofNat 2147483647)), (5, (.ofNat 0), (.ofNat 60)), (6, (.ofNat 0), (.ofNat 60))], [], [], [zc200,
    zc192,
    zc89,
    .inr (1, .inr (.inl 60))], []), 0, 0)])
noncomputable def c34_6_e : List Ct := [c35_6, c40_0, c44_0]
noncomputable def c34_6_p0 : PE := (7, [0, 1, 2], (8, [(0, (.ofNat 0), (.ofNat 60)), (1, (.negSucc 2147483647), (.ofNat 2147483647)), (2, (.ofNat 0), (.ofNat 60)), (3, (.ofNat 0), (.ofNat 60)), (4, (.ofNat 0), (.ofNat 60)), (5, (.negSucc 2147483647), (.ofNat 2147483647)), (6, (.ofNat 0), (.ofNat 60)), (7, (.ofNat 0), (.ofNat 60))], [], [.inr (.inl (some 0)), .inl (false, ((.ofNat 2), [])), .inl (false, ((.ofNat 0), [(4, (.ofNat 1))]))], [zc204,
    zc192,
    zc89,
    .inr (1, .inr (.inl 60))], []), symsL 4 0, some ((.ofNat 121), [(4, (.negSucc 0))]), 0, 0)
noncomputable def c34_6_pts : List PE := [c34_6_p0]
set_option maxRecDepth 100000 in
theorem c34_6_k : enCtF c34_6 c34_6_e (c34_6_pts ++ []) (none) (noF, noM, 128, 0, 4) 3000 = true := by decide +kernel
set_option maxRecDepth 100000 in
theorem c34_6_k0 : ptCtF c34_6 c34_6_e (c34_6_pts ++ []) (noF, noM, 128, 0, 4) 3000 c34_6_p0 = true := by decide +kernel
set_option maxRecDepth 100000 in
theorem c34_6_v : ValidC PPk c34_6 := ct_ok fpk ⟨noF_ok, noM_ok⟩ (d := 56) (ext := []) (pts := c34_6_pts) (env := c34_6_e) rfl (List.forall_mem_cons.mpr ⟨⟨c35_6_v, Nat.le_of_ble_eq_true rfl⟩, List.forall_mem_cons.mpr ⟨⟨c40_0_v, Nat.le_of_ble_eq_true rfl⟩, List.forall_mem_cons.mpr ⟨⟨c44_0_v, Nat.le_of_ble_eq_true rfl⟩, fun _ h => (by cases h)⟩⟩⟩) ext_nil (fun q h => (by cases h)) (enF c34_6_k) (List.forall_mem_cons.mpr ⟨ptF c34_6_k0, fun _ h => (by cases h)⟩)

noncomputable def c45_7 : Ct := (45, 58, (4, [(0, (.ofNat 0), (.ofNat 60)), (1, (.negSucc 2147483647), (.ofNat 2147483647)), (2, (.ofNat 0), (.ofNat 60)), (3, (.ofNat 0), (.ofNat 60))], [((.ofNat 1), [(0, (.negSucc 0)), (2, (.ofNat 1))])], [.inr (.inl (some 0)), .inl (false, ((.ofNat 1), []))], [zc191,
    zc192,
    zc89,
    .inr (1, .inr (.inl 60))], []),
  [((7, [(4, (.negSucc 2147483647), (.ofNat 2147483647)), (5, (.ofNat 0), (.ofNat 60)), (6, (.ofNat 0), (.ofNat 60))], [], [], [zc200,
    zc192,
    zc89,
    .inr (1, .inr (.inl 60))], []), 0, 0)])
noncomputable def c45_7_e : List Ct := [c34_6, c40_0, c43_0]
noncomputable def c45_7_pts : List PE := []
set_option maxRecDepth 100000 in
theorem c45_7_k : enCtF c45_7 c45_7_e (c45_7_pts ++ []) (none) noH 3000 = true := by decide +kernel
set_option maxRecDepth 100000 in
theorem c45_7_v : ValidC PPk c45_7 := ct_ok fpk noH_ok (d := 57) (ext := []) (pts := c45_7_pts) (env := c45_7_e) rfl (List.forall_mem_cons.mpr ⟨⟨c34_6_v, Nat.le_of_ble_eq_true rfl⟩, List.forall_mem_cons.mpr ⟨⟨c40_0_v, Nat.le_of_ble_eq_true rfl⟩, List.forall_mem_cons.mpr ⟨⟨c43_0_v, Nat.le_of_ble_eq_true rfl⟩, fun _ h => (by cases h)⟩⟩⟩) ext_nil (fun q h => (by cases h)) (enF c45_7_k) (fun _ h => (by cases h))

noncomputable def c41_14 : Ct := (41, 59, (5, [(0, (.negSucc 2147483647), (.ofNat 2147483647)), (1, (.ofNat 0), (.ofNat 60)), (2, (.negSucc 2147483647), (.ofNat 2147483647)), (3, (.ofNat 0), (.ofNat 60)), (4, (.ofNat 0), (.ofNat 60))], [((.ofNat 1), [(1, (.negSucc 0)), (3, (.ofNat 1))])], [.inr (.inl (some 0)), .inl (false, ((.ofNat 0), [(0, (.ofNat 1))])), .inl (false, ((.ofNat 1), []))], [zc198,
    zc192,
    zc89,
    .inr (1, .inr (.inl 60))], []),
  [((8, [(5, (.negSucc 2147483647), (.ofNat 2147483647)), (6, (.ofNat 0), (.ofNat 60)), (7, (.ofNat 0), (.ofNat 60))], [], [], [zc201,
    zc192,
    zc89,
    .inr (1, .inr (.inl 60))], []), 0, 0)])
noncomputable def c41_14_e : List Ct := [c42_0, c43_0, c44_0, c45_7]
noncomputable def c41_14_pts : List PE := []
set_option maxRecDepth 100000 in
theorem c41_14_k : enCtF c41_14 c41_14_e (c41_14_pts ++ []) (none) noH 3000 = true := by decide +kernel
set_option maxRecDepth 100000 in
theorem c41_14_v : ValidC PPk c41_14 := ct_ok fpk noH_ok (d := 58) (ext := []) (pts := c41_14_pts) (env := c41_14_e) rfl (List.forall_mem_cons.mpr ⟨⟨c42_0_v, Nat.le_of_ble_eq_true rfl⟩, List.forall_mem_cons.mpr ⟨⟨c43_0_v, Nat.le_of_ble_eq_true rfl⟩, List.forall_mem_cons.mpr ⟨⟨c44_0_v, Nat.le_of_ble_eq_true rfl⟩, List.forall_mem_cons.mpr ⟨⟨c45_7_v, Nat.le_of_ble_eq_true rfl⟩, fun _ h => (by cases h)⟩⟩⟩⟩) ext_nil (fun q h => (by cases h)) (enF c41_14_k) (fun _ h => (by cases h))

noncomputable def c41_15 : Ct := (41, 2, (6, [(0, (.ofNat 0), (.ofNat 60)), (1, (.negSucc 2147483647), (.ofNat 2147483647)), (2, (.ofNat 0), (.ofNat 60)), (3, (.ofNat 0), (.ofNat 60))], [], [.inr (.inl (some 0)), .inl (false, ((.negSucc 0), [])), .inl (false, ((.ofNat 1), []))], [zc191,
    zc196,
    zc133,
    .inr (1, .inr (.inl 60))], []),
  [((7, [(6, (.negSucc 2147483647), (.ofNat 2147483647))], [], [], [zc197,
    zc196,
    zc133,
    .inr (1, .inr (.inl 60))], []), 0, 0)])
noncomputable def c41_15_e : List Ct := [c43_0]
noncomputable def c41_15_pts : List PE := []
set_option maxRecDepth 100000 in
theorem c41_15_k : enCtF c41_15 c41_15_e (c41_15_pts ++ []) (none) noH 3000 = true := by decide +kernel
set_option maxRecDepth 100000 in
theorem c41_15_v : ValidC PPk c41_15 := ct_ok fpk noH_ok (d := 1) (ext := []) (pts := c41_15_pts) (env := c41_15_e) rfl (List.forall_mem_cons.mpr ⟨⟨c43_0_v, Nat.le_of_ble_eq_true rfl⟩, fun _ h => (by cases h)⟩) ext_nil (fun q h => (by cases h)) (enF c41_15_k) (fun _ h => (by cases h))

noncomputable def c39_7 : Ct := (39, 60, (4, [(0, (.ofNat 0), (.ofNat 60)), (1, (.negSucc 2147483647), (.ofNat 2147483647)), (2, (.ofNat 0), (.ofNat 60)), (3, (.ofNat 0), (.ofNat 60))], [], [.inr (.inl (some 0)), .inl (false, ((.ofNat 1), []))], [zc191,
    zc192,
    zc89,
    .inr (1, .inr (.inl 60))], []),
  [((7, [(4, (.negSucc 2147483647), (.ofNat 2147483647)), (5, (.ofNat 0), (.ofNat 60)), (6, (.ofNat 0), (.ofNat 60))], [], [], [zc200,
    zc192,
    zc89,
    .inr (1, .inr (.inl 60))], []), 0, 0)])
noncomputable def c39_7_e : List Ct := [c40_0, c41_14, c41_15, c44_0]
noncomputable def c39_7_p0 : PE := (13, [0, 1, 2, 3, 4], (7, [(0, (.ofNat 1), (.ofNat 60)), (1, (.negSucc 0), (.negSucc 0)), (2, (.ofNat 0), (.ofNat 60)), (3, (.ofNat 0), (.ofNat 60)), (4, (.ofNat 0), (.ofNat 127)), (5, (.ofNat 0), (.ofNat 60)), (6, (.ofNat 0), (.ofNat 59))], [((.ofNat 1), [(0, (.negSucc 0)), (6, (.ofNat 1))])], [.inr (.inl (some 0)), .inl (false, ((.ofNat 1), [])), .inl (false, ((.ofNat 0), [(2, (.ofNat 1))])), .inl (false, ((.ofNat 0), [(4, (.ofNat 1))])), .inl (false, ((.ofNat 0), [(5, (.ofNat 1))]))], [zc194,
    zc192,
    zc89,
    .inr (1, .inr (.inl 60))], []), symsL 4 0, some ((.ofNat 182), [(5, (.negSucc 0))]), 0, 0)
noncomputable def c39_7_p1 : PE := (13, [0, 1, 2, 3, 4], (6, [(0, (.ofNat 0), (.ofNat 60)), (1, (.negSucc 2147483647), (.ofNat 2147483647)), (2, (.ofNat 0), (.ofNat 60)), (3, (.ofNat 0), (.ofNat 60)), (4, (.ofNat 0), (.ofNat 60)), (5, (.ofNat 0), (.ofNat 60))], [], [.inr (.inl (some 0)), .inl (false, ((.ofNat 1), [])), .inl (false, ((.ofNat 0), [(2, (.ofNat 1))])), .inl (false, ((.negSucc 0), [])), .inl (false, ((.ofNat 0), [(4, (.ofNat 1))]))], [zc193,
    zc192,
    zc89,
    .inr (1, .inr (.inl 60))], []), symsL 4 0, some ((.ofNat 182), [(4, (.negSucc 0))]), 0, 0)
noncomputable def c39_7_p2 : PE := (71, [0, 1, 2, 3, 4, 5], (10, [(0, (.ofNat 0), (.ofNat 60)), (1, (.negSucc 2147483647), (.ofNat 2147483647)), (2, (.ofNat 0), (.ofNat 60)), (3, (.ofNat 0), (.ofNat 60)), (4, (.negSucc 0), (.ofNat 127)), (5, (.ofNat 0), (.ofNat 60)), (6, (.negSucc 0), (.ofNat 59)), (7, (.negSucc 2147483647), (.ofNat 2147483647)), (8, (.ofNat 0), (.ofNat 60)), (9, (.ofNat 0), (.ofNat 60))], [], [.inr (.inl (some 0)), .inl (false, ((.ofNat 1), [])), .inl (false, ((.ofNat 0), [(2, (.ofNat 1))])), .inl (false, ((.ofNat 0), [(4, (.ofNat 1))])), .inl (false, ((.ofNat 0), [(5, (.ofNat 1))])), .inl (false, ((.ofNat 0), [(6, (.ofNat 1))]))], [zc202,
    zc192,
    zc89,
    .inr (1, .inr (.inl 60))], []), symsL 4 0, some ((.ofNat 62), [(6, (.ofNat 1))]), 0, 0)
noncomputable def c39_7_pts : List PE := [c39_7_p0, c39_7_p1, c39_7_p2]
set_option maxRecDepth 100000 in
theorem c39_7_k : enCtF c39_7 c39_7_e (c39_7_pts ++ []) (none) (noF, noM, 2361183241434822615040, 0, 4) 3000 = true := by decide +kernel
set_option maxRecDepth 100000 in
theorem c39_7_k0 : ptCtF c39_7 c39_7_e (c39_7_pts ++ []) (noF, noM, 2361183241434822615040, 0, 4) 3000 c39_7_p0 = true := by decide +kernel
set_option maxRecDepth 100000 in
theorem c39_7_k1 : ptCtF c39_7 c39_7_e (c39_7_pts ++ []) (noF, noM, 2361183241434822615040, 0, 4) 3000 c39_7_p1 = true := by decide +kernel
set_option maxRecDepth 100000 in
theorem c39_7_k2 : ptCtF c39_7 c39_7_e (c39_7_pts ++ []) (noF, noM, 2361183241434822615040, 0, 4) 3000 c39_7_p2 = true := by decide +kernel
set_option maxRecDepth 100000 in
theorem c39_7_v : ValidC PPk c39_7 := ct_ok fpk ⟨noF_ok, noM_ok⟩ (d := 59) (ext := []) (pts := c39_7_pts) (env := c39_7_e) rfl (List.forall_mem_cons.mpr ⟨⟨c40_0_v, Nat.le_of_ble_eq_true rfl⟩, List.forall_mem_cons.mpr ⟨⟨c41_14_v, Nat.le_of_ble_eq_true rfl⟩, List.forall_mem_cons.mpr ⟨⟨c41_15_v, Nat.le_of_ble_eq_true rfl⟩, List.forall_mem_cons.mpr ⟨⟨c44_0_v, Nat.le_of_ble_eq_true rfl⟩, fun _ h => (by cases h)⟩⟩⟩⟩) ext_nil (fun q h => (by cases h)) (enF c39_7_k) (List.forall_mem_cons.mpr ⟨ptF c39_7_k0, List.forall_mem_cons.mpr ⟨ptF c39_7_k1, List.forall_mem_cons.mpr ⟨ptF c39_7_k2, fun _ h => (by cases h)⟩⟩⟩)

noncomputable def c38_7 : Ct := (38, 61, (4, [(0, (.ofNat 0), (.ofNat 60)), (1, (.negSucc 2147483647), (.ofNat 2147483647)), (2, (.ofNat 0), (.ofNat 60)), (3, (.ofNat 0), (.ofNat 60))], [], [.inr (.inl (some 0)), .inl (false, ((.ofNat 1), []))], [zc191,
    zc192,
    zc89,
    .inr (1, .inr (.inl 60))], []),
  [((7, [(4, (.negSucc 2147483647), (.ofNat 2147483647)), (5, (.ofNat 0), (.ofNat 60)), (6, (.ofNat 0), (.ofNat 60))], [], [], [zc200,
    zc192,
    zc89,
    .inr (1, .inr (.inl 60))], []), 0, 0)])
noncomputable def c38_7_e : List Ct := [c39_7, c40_0, c44_0]
noncomputable def c38_7_p0 : PE := (7, [0, 1, 2], (7, [(0, (.ofNat 0), (.ofNat 60)), (1, (.negSucc 2147483647), (.ofNat 2147483647)), (2, (.ofNat 0), (.ofNat 60)), (3, (.ofNat 0), (.ofNat 60)), (4, (.negSucc 2147483647), (.ofNat 2147483647)), (5, (.ofNat 0), (.ofNat 60)), (6, (.ofNat 0), (.ofNat 60))], [], [.inr (.inl (some 0)), .inl (false, ((.ofNat 1), [])), .inl (false, ((.ofNat 0), []))], [zc200,
    zc192,
    zc89,
    .inr (1, .inr (.inl 60))], []), symsL 4 0, some ((.ofNat 121), []), 0, 0)
noncomputable def c38_7_p1 : PE := (7, [0, 1, 2, 3], (9, [(0, (.ofNat 1), (.ofNat 60)), (1, (.negSucc 2147483647), (.ofNat 2147483647)), (2, (.ofNat 0), (.ofNat 60)), (3, (.ofNat 0), (.ofNat 60)), (4, (.ofNat 1), (.ofNat 60)), (5, (.ofNat 42), (.ofNat 47)), (6, (.negSucc 2147483647), (.ofNat 2147483647)), (7, (.ofNat 0), (.ofNat 60)), (8, (.ofNat 1), (.ofNat 60))], [], [.inr (.inl (some 0)), .inl (false, ((.ofNat 1), [])), .inl (false, ((.ofNat 0), [(4, (.ofNat 1))])), .inl (false, ((.ofNat 0), [(5, (.ofNat 1))]))], [zc203,
    zc192,
    zc89,
    .inr (1, .inr (.inl 60))], []), symsL 4 0, some ((.ofNat 121), [(4, (.negSucc 0))]), 0, 0)
noncomputable def c38_7_pts : List PE := [c38_7_p0, c38_7_p1]
set_option maxRecDepth 100000 in
theorem c38_7_k : enCtF c38_7 c38_7_e (c38_7_pts ++ []) (none) (noF, noM, 128, 0, 4) 3000 = true := by decide +kernel
set_option maxRecDepth 100000 in
theorem c38_7_k0 : ptCtF c38_7 c38_7_e (c38_7_pts ++ []) (noF, noM, 128, 0, 4) 3000 c38_7_p0 = true := by decide +kernel
set_option maxRecDepth 100000 in
theorem c38_7_k1 : ptCtF c38_7 c38_7_e (c38_7_pts ++ []) (noF, noM, 128, 0, 4) 3000 c38_7_p1 = true := by decide +kernel
set_option maxRecDepth 100000 in
theorem c38_7_v : ValidC PPk c38_7 := ct_ok fpk ⟨noF_ok, noM_ok⟩ (d := 60) (ext := []) (pts := c38_7_pts) (env := c38_7_e) rfl (List.forall_mem_cons.mpr ⟨⟨c39_7_v, Nat.le_of_ble_eq_true rfl⟩, List.forall_mem_cons.mpr ⟨⟨c40_0_v, Nat.le_of_ble_eq_true rfl⟩, List.forall_mem_cons.mpr ⟨⟨c44_0_v, Nat.le_of_ble_eq_true rfl⟩, fun _ h => (by cases h)⟩⟩⟩) ext_nil (fun q h => (by cases h)) (enF c38_7_k) (List.forall_mem_cons.mpr ⟨ptF c38_7_k0, List.forall_mem_cons.mpr ⟨ptF c38_7_k1, fun _ h => (by cases h)⟩⟩)

noncomputable def c37_7 : Ct := (37, 62, (4, [(0, (.ofNat 0), (.ofNat 60)), (1, (.negSucc 2147483647), (.ofNat 2147483647)), (2, (.ofNat 0), (.ofNat 60)), (3, (.ofNat 0), (.ofNat 60))], [], [.inr (.inl (some 0)), .inl (false, ((.ofNat 1), []))], [zc191,
    zc192,
    zc89,
    .inr (1, .inr (.inl 60))], []),
  [((7, [(4, (.negSucc 2147483647), (.ofNat 2147483647)), (5, (.ofNat 0), (.ofNat 60)), (6, (.ofNat 0), (.ofNat 60))], [], [], [zc200,
    zc192,
    zc89,
    .inr (1, .inr (.inl 60))], []), 0, 0)])
noncomputable def c37_7_e : List Ct := [c38_7, c40_0, c44_0]
noncomputable def c37_7_p0 : PE := (7, [0, 1, 2], (7, [(0, (.ofNat 0), (.ofNat 60)), (1, (.negSucc 2147483647), (.ofNat 2147483647)), (2, (.ofNat 0), (.ofNat 60)), (3, (.ofNat 0), (.ofNat 60)), (4, (.negSucc 2147483647), (.ofNat 2147483647)), (5, (.ofNat 0), (.ofNat 60)), (6, (.ofNat 0), (.ofNat 60))], [], [.inr (.inl (some 0)), .inl (false, ((.ofNat 1), [])), .inl (false, ((.ofNat 0), []))], [zc200,
    zc192,
    zc89,
    .inr (1, .inr (.inl 60))], []), symsL 4 0, some ((.ofNat 121), []), 0, 0)
noncomputable def c37_7_p1 : PE := (7, [0, 1, 2, 3], (9, [(0, (.ofNat 1), (.ofNat 60)), (1, (.negSucc 2147483647), (.ofNat 2147483647)), (2, (.ofNat 0), (.ofNat 60)), (3, (.ofNat 0), (.ofNat 60)), (4, (.ofNat 1), (.ofNat 60)), (5, (.ofNat 43), (.ofNat 45)), (6, (.negSucc 2147483647), (.ofNat 2147483647)), (7, (.ofNat 0), (.ofNat 60)), (8, (.ofNat 1), (.ofNat 60))], [], [.inr (.inl (some 0)), .inl (false, ((.ofNat 1), [])), .inl (false, ((.ofNat 0), [(4, (.ofNat 1))])), .inl (false, ((.ofNat 0), [(5, (.ofNat 1))]))], [zc203,
    zc192,
    zc89,
    .inr (1, .inr (.inl 60))], []), symsL 4 0, some ((.ofNat 121), [(4, (.negSucc 0))]), 0, 0)
noncomputable def c37_7_pts : List PE := [c37_7_p0, c37_7_p1]
set_option maxRecDepth 100000 in
theorem c37_7_k : enCtF c37_7 c37_7_e (c37_7_pts ++ []) (none) (noF, noM, 128, 0, 4) 3000 = true := by decide +kernel
set_option maxRecDepth 100000 in
theorem c37_7_k0 : ptCtF c37_7 c37_7_e (c37_7_pts ++ []) (noF, noM, 128, 0, 4) 3000 c37_7_p0 = true := by decide +kernel
set_option maxRecDepth 100000 in
theorem c37_7_k1 : ptCtF c37_7 c37_7_e (c37_7_pts ++ []) (noF, noM, 128, 0, 4) 3000 c37_7_p1 = true := by decide +kernel
set_option maxRecDepth 100000 in
theorem c37_7_v : ValidC PPk c37_7 := ct_ok fpk ⟨noF_ok, noM_ok⟩ (d := 61) (ext := []) (pts := c37_7_pts) (env := c37_7_e) rfl (List.forall_mem_cons.mpr ⟨⟨c38_7_v, Nat.le_of_ble_eq_true rfl⟩, List.forall_mem_cons.mpr ⟨⟨c40_0_v, Nat.le_of_ble_eq_true rfl⟩, List.forall_mem_cons.mpr ⟨⟨c44_0_v, Nat.le_of_ble_eq_true rfl⟩, fun _ h => (by cases h)⟩⟩⟩) ext_nil (fun q h => (by cases h)) (enF c37_7_k) (List.forall_mem_cons.mpr ⟨ptF c37_7_k0, List.forall_mem_cons.mpr ⟨ptF c37_7_k1, fun _ h => (by cases h)⟩⟩)

noncomputable def c36_7 : Ct := (36, 63, (4, [(0, (.ofNat 0), (.ofNat 60)), (1, (.negSucc 2147483647), (.ofNat 2147483647)), (2, (.ofNat 0), (.ofNat 60)), (3, (.ofNat 0), (.ofNat 60))], [], [.inr (.inl (some 0)), .inl (false, ((.ofNat 1), []))], [zc191,
    zc192,
    zc89,
    .inr (1, .inr (.inl 60))], []),
  [((7, [(4, (.negSucc 2147483647), (.ofNat 2147483647)), (5, (.ofNat 0), (.ofNat 60)), (6, (.ofNat 0), (.ofNat 60))], [], [], [zc200,
    zc192,
    zc89,
    .inr (1, .inr (.inl 60))], []), 0, 0)])
noncomputable def c36_7_e : List Ct := [c37_7, c40_0, c44_0]
noncomputable def c36_7_pts : List PE := []
set_option maxRecDepth 100000 in
theorem c36_7_k : enCtF c36_7 c36_7_e (c36_7_pts ++ []) (none) noH 3000 = true := by decide +kernel
set_option maxRecDepth 100000 in
theorem c36_7_v : ValidC PPk c36_7 := ct_ok fpk noH_ok (d := 62) (ext := []) (pts := c36_7_pts) (env := c36_7_e) rfl (List.forall_mem_cons.mpr ⟨⟨c37_7_v, Nat.le_of_ble_eq_true rfl⟩, List.forall_mem_cons.mpr ⟨⟨c40_0_v, Nat.le_of_ble_eq_true rfl⟩, List.forall_mem_cons.mpr ⟨⟨c44_0_v, Nat.le_of_ble_eq_true rfl⟩, fun _ h => (by cases h)⟩⟩⟩) ext_nil (fun q h => (by cases h)) (enF c36_7_k) (fun _ h => (by cases h))

noncomputable def c35_7 : Ct := (35, 64, (4, [(0, (.ofNat 0), (.ofNat 60)), (1, (.negSucc 2147483647), (.ofNat 2147483647)), (2, (.ofNat 0), (.ofNat 60)), (3, (.ofNat 0), (.ofNat 60))], [], [.inr (.inl (some 0)), .inl (false, ((.ofNat 1), []))], [zc191,
    zc192,
    zc89,
    .inr (1, .inr (.inl 60))], []),
  [((7, [(4, (.negSucc 2147483647), (.ofNat 2147483647)), (5, (.ofNat 0), (.ofNat 60)), (6, (.ofNat 0), (.ofNat 60))], [], [], [zc200,
    zc192,
    zc89,
    .inr (1, .inr (.inl 60))], []), 0, 0)])
noncomputable def c35_7_e : List Ct := [c36_7, c40_0, c44_0]
noncomputable def c35_7_p0 : PE := (7, [0, 1, 2], (8, [(0, (.ofNat 0), (.ofNat 60)), (1, (.negSucc 2147483647), (.ofNat 2147483647)), (2, (.ofNat 0), (.ofNat 60)), (3, (.ofNat 0), (.ofNat 60)), (4, (.ofNat 0), (.ofNat 60)), (5, (.negSucc 2147483647), (.ofNat 2147483647)), (6, (.ofNat 0), (.ofNat 60)), (7, (.ofNat 0), (.ofNat 60))], [], [.inr (.inl (some 0)), .inl (false, ((.ofNat 1), [])), .inl (false, ((.ofNat 0), [(4, (.ofNat 1))]))], [zc204,
    zc192,
    zc89,
    .inr (1, .inr (.inl 60))], []), symsL 4 0, some ((.ofNat 121), [(4, (.negSucc 0))]), 0, 0)
noncomputable def c35_7_pts : List PE := [c35_7_p0]
set_option maxRecDepth 100000 in
theorem c35_7_k : enCtF c35_7 c35_7_e (c35_7_pts ++ []) (none) (noF, noM, 128, 0, 4) 3000 = true := by decide +kernel
set_option maxRecDepth 100000 in
theorem c35_7_k0 : ptCtF c35_7 c35_7_e (c35_7_pts ++ []) (noF, noM, 128, 0, 4) 3000 c35_7_p0 = true := by decide +kernel
set_option maxRecDepth 100000 in
theorem c35_7_v : ValidC PPk c35_7 := ct_ok fpk ⟨noF_ok, noM_ok⟩ (d := 63) (ext := []) (pts := c35_7_pts) (env := c35_7_e) rfl (List.forall_mem_cons.mpr ⟨⟨c36_7_v, Nat.le_of_ble_eq_true rfl⟩, List.forall_mem_cons.mpr ⟨⟨c40_0_v, Nat.le_of_ble_eq_true rfl⟩, List.forall_mem_cons.mpr ⟨⟨c44_0_v, Nat.le_of_ble_eq_true rfl⟩, fun _ h => (by cases h)⟩⟩⟩) ext_nil (fun q h => (by cases h)) (enF c35_7_k) (List.forall_mem_cons.mpr ⟨ptF c35_7_k0, fun _ h => (by cases h)⟩)

noncomputable def c34_7 : Ct := (34, 65, (4, [(0, (.ofNat 0), (.ofNat 60)), (1, (.negSucc 2147483647), (.ofNat 2147483647)), (2, (.ofNat 0), (.ofNat 60)), (3, (.ofNat 0), (.ofNat 60))], [], [.inr (.inl (some 0)), .inl (false, ((.ofNat 1), []))], [zc191,
    zc192,
    zc89,
    .inr (1, .inr (.inl 60))], []),
  [((7, [(4, (.negSucc 2147483647), (.ofNat 2147483647)), (5, (.ofNat 0), (.ofNat 60)), (6, (.ofNat 0), (.ofNat 60))], [], [], [zc200,
    zc192,
    zc89,
    .inr (1, .inr (.inl 60))], []), 0, 0)])
noncomputable def c34_7_e : List Ct := [c35_7, c40_0, c44_0]
noncomputable def c34_7_p0 : PE := (7, [0, 1, 2], (8, [(0, (.ofNat 0), (.ofNat 60)), (1, (.negSucc 2147483647), (.ofNat 2147483647)), (2, (.ofNat 0), (.ofNat 60)), (3, (.ofNat 0), (.ofNat 60)), (4, (.ofNat 0), (.ofNat 60)), (5, (.negSucc 2147483647), (.ofNat 2147483647)), (6, (.ofNat 0), (.ofNat 60)), (7, (.ofNat 0), (.ofNat 60))], [], [.inr (.inl (some 0)), .inl (false, ((.ofNat 1), [])), .inl (false, ((.ofNat 0), [(4, (.ofNat 1))]))], [zc204,
    zc192,
    zc89,
    .inr (1, .inr (.inl 60))], []), symsL 4 0, some ((.ofNat 121), [(4, (.negSucc 0))]), 0, 0)
noncomputable def c34_7_pts : List PE := [c34_7_p0]
set_option maxRecDepth 100000 in
theorem c34_7_k : enCtF c34_7 c34_7_e (c34_7_pts ++ []) (none) (noF, noM, 128, 0, 4) 3000 = true := by decide +kernel
set_option maxRecDepth 100000 in
theorem c34_7_k0 : ptCtF c34_7 c34_7_e (c34_7_pts ++ []) (noF, noM, 128, 0, 4) 3000 c34_7_p0 = true := by decide +kernel
set_option maxRecDepth 100000 in
theorem c34_7_v : ValidC PPk c34_7 := ct_ok fpk ⟨noF_ok, noM_ok⟩ (d := 64) (ext := []) (pts := c34_7_pts) (env := c34_7_e) rfl (List.forall_mem_cons.mpr ⟨⟨c35_7_v, Nat.le_of_ble_eq_true rfl⟩, List.forall_mem_cons.mpr ⟨⟨c40_0_v, Nat.le_of_ble_eq_true rfl⟩, List.forall_mem_cons.mpr ⟨⟨c44_0_v, Nat.le_of_ble_eq_true rfl⟩, fun _ h => (by cases h)⟩⟩⟩) ext_nil (fun q h => (by cases h)) (enF c34_7_k) (List.forall_mem_cons.mpr ⟨ptF c34_7_k0, fun _ h => (by cases h)⟩)

noncomputable def c45_8 : Ct := (45, 66, (4, [(0, (.ofNat 0), (.ofNat 60)), (1, (.negSucc 2147483647), (.ofNat 2147483647)), (2, (.ofNat 0), (.ofNat 60)), (3, (.ofNat 0), (.ofNat 60))], [((.ofNat 1), [(0, (.negSucc 0)), (2, (.ofNat 1))])], [.inr (.inl (some 0)), .inl (false, ((.ofNat 0), []))], [zc191,
    zc192,
    zc89,
    .inr (1, .inr (.inl 60))], []),
  [((7, [(4, (.negSucc 2147483647), (.ofNat 2147483647)), (5, (.ofNat 0), (.ofNat 60)), (6, (.ofNat 0), (.ofNat 60))], [], [], [zc200,
    zc192,
    zc89,
    .inr (1, .inr (.inl 60))], []), 0, 0)])
noncomputable def c45_8_e : List Ct := [c34_7, c40_0, c43_0]
noncomputable def c45_8_pts : List PE := []
set_option maxRecDepth 100000 in
theorem c45_8_k : enCtF c45_8 c45_8_e (c45_8_pts ++ []) (none) noH 3000 = true := by decide +kernel
set_option maxRecDepth 100000 in
theorem c45_8_v : ValidC PPk c45_8 := ct_ok fpk noH_ok (d := 65) (ext := []) (pts := c45_8_pts) (env := c45_8_e) rfl (List.forall_mem_cons.mpr ⟨⟨c34_7_v, Nat.le_of_ble_eq_true rfl⟩, List.forall_mem_cons.mpr ⟨⟨c40_0_v, Nat.le_of_ble_eq_true rfl⟩, List.forall_mem_cons.mpr ⟨⟨c43_0_v, Nat.le_of_ble_eq_true rfl⟩, fun _ h => (by cases h)⟩⟩⟩) ext_nil (fun q h => (by cases h)) (enF c45_8_k) (fun _ h => (by cases h))

noncomputable def c41_16 : Ct := (41, 67, (5, [(0, (.negSucc 2147483647), (.ofNat 2147483647)), (1, (.ofNat 0), (.ofNat 60)), (2, (.negSucc 2147483647), (.ofNat 2147483647)), (3, (.ofNat 0), (.ofNat 60)), (4, (.ofNat 0), (.ofNat 60))], [((.ofNat 1), [(1, (.negSucc 0)), (3, (.ofNat 1))])], [.inr (.inl (some 0)), .inl (false, ((.ofNat 0), [(0, (.ofNat 1))])), .inl (false, ((.ofNat 0), []))], [zc198,
    zc192,
    zc89,
    .inr (1, .inr (.inl 60))], []),
  [((8, [(5, (.negSucc 2147483647), (.ofNat 2147483647)), (6, (.ofNat 0), (.ofNat 60)), (7, (.ofNat 0), (.ofNat 60))], [], [], [zc201,
    zc192,
    zc89,
    .inr (1, .inr (.inl 60))], []), 0, 0)])
noncomputable def c41_16_e : List Ct := [c42_0, c43_0, c44_0, c45_8]
noncomputable def c41_16_pts : List PE := []
set_option maxRecDepth 100000 in
theorem c41_16_k : enCtF c41_16 c41_16_e (c41_16_pts ++ []) (none) noH 3000 = true := by decide +kernel
set_option maxRecDepth 100000 in
theorem c41_16_v : ValidC PPk c41_16 := ct_ok fpk noH_ok (d := 66) (ext := []) (pts := c41_16_pts) (env := c41_16_e) rfl (List.forall_mem_cons.mpr ⟨⟨c42_0_v, Nat.le_of_ble_eq_true rfl⟩, List.forall_mem_cons.mpr ⟨⟨c43_0_v, Nat.le_of_ble_eq_true rfl⟩, List.forall_mem_cons.mpr ⟨⟨c44_0_v, Nat.le_of_ble_eq_true rfl⟩, List.forall_mem_cons.mpr ⟨⟨c45_8_v, Nat.le_of_ble_eq_true rfl⟩, fun _ h => (by cases h)⟩⟩⟩⟩) ext_nil (fun q h => (by cases h)) (enF c41_16_k) (fun _ h => (by cases h))

noncomputable def c41_17 : Ct := (41, 2, (6, [(0, (.ofNat 0), (.ofNat 60)), (1, (.negSucc 2147483647), (.ofNat 2147483647)), (2, (.ofNat 0), (.ofNat 60)), (3, (.ofNat 0), (.ofNat 60))], [], [.inr (.inl (some 0)), .inl (false, ((.negSucc 0), [])), .inl (false, ((.ofNat 0), []))], [zc191,
    zc196,
    zc133,
    .inr (1, .inr (.inl 60))], []),
  [((7, [(6, (.negSucc 2147483647), (.ofNat 2147483647))], [], [], [zc197,
    zc196,
    zc133,
    .inr (1, .inr (.inl 60))], []), 0, 0)])
noncomputable def c41_17_e : List Ct := [c43_0]
noncomputable def c41_17_pts : List PE := []
set_option maxRecDepth 100000 in
theorem c41_17_k : enCtF c41_17 c41_17_e (c41_17_pts ++ []) (none) noH 3000 = true := by decide +kernel
set_option maxRecDepth 100000 in
theorem c41_17_v : ValidC PPk c41_17 := ct_ok fpk noH_ok (d := 1) (ext := []) (pts := c41_17_pts) (env := c41_17_e) rfl (List.forall_mem_cons.mpr ⟨⟨c43_0_v, Nat.le_of_ble_eq_true rfl⟩, fun _ h => (by cases h)⟩) ext_nil (fun q h => (by cases h)) (enF c41_17_k) (fun _ h => (by cases h))

noncomputable def c39_8 : Ct := (39, 68, (4, [(0, (.ofNat 0), (.ofNat 60)), (1, (.negSucc 2147483647), (.ofNat 2147483647)), (2, (.ofNat 0), (.ofNat 60)), (3, (.ofNat 0), (.ofNat 60))], [], [.inr (.inl (some 0)), .inl (false, ((.ofNat 0), []))], [zc191,
    zc192,
    zc89,
    .inr (1, .inr (.inl 60))], []),
  [((7, [(4, (.negSucc 2147483647), (.ofNat 2147483647)), (5, (.ofNat 0), (.ofNat 60)), (6, (.ofNat 0), (.ofNat 60))], [], [], [zc200,
    zc192,
    zc89,
    .inr (1, .inr (.inl 60))], []), 0, 0)])
noncomputable def c39_8_e : List Ct := [c40_0, c41_16, c41_17, c44_0]
noncomputable def c39_8_p0 : PE := (13, [0, 1, 2, 3, 4], (7, [(0, (.ofNat 1), (.ofNat 60)), (1, (.negSucc 0), (.negSucc 0)), (2, (.ofNat 0), (.ofNat 60)), (3, (.ofNat 0), (.ofNat 60)), (4, (.ofNat 0), (.ofNat 127)), (5, (.ofNat 0), (.ofNat 60)), (6, (.ofNat 0), (.ofNat 59))], [((.ofNat 1), [(0, (.negSucc 0)), (6, (.ofNat 1))])], [.inr (.inl (some 0)), .inl (false, ((.ofNat 0), [])), .inl (false, ((.ofNat 0), [(2, (.ofNat 1))])), .inl (false, ((.ofNat 0), [(4, (.ofNat 1))])), .inl (false, ((.ofNat 0), [(5, (.ofNat 1))]))], [zc194,
    zc192,
    zc89,
    .inr (1, .inr (.inl 60))], []), symsL 4 0, some ((.ofNat 182), [(5, (.negSucc 0))]), 0, 0)
noncomputable def c39_8_p1 : PE := (13, [0, 1, 2, 3, 4], (6, [(0, (.ofNat 0), (.ofNat 60)), (1, (.negSucc 2147483647), (.ofNat 2147483647)), (2, (.ofNat 0), (.ofNat 60)), (3, (.ofNat 0), (.ofNat 60)), (4, (.ofNat 0), (.ofNat 60)), (5, (.ofNat 0), (.ofNat 60))], [], [.inr (.inl (some 0)), .inl (false, ((.ofNat 0), [])), .inl (false, ((.ofNat 0), [(2, (.ofNat 1))])), .inl (false, ((.negSucc 0), [])), .inl (false, ((.ofNat 0), [(4, (.ofNat 1))]))], [zc193,
    zc192,
    zc89,
    .inr (1, .inr (.inl 60))], []), symsL 4 0, some ((.ofNat 182), [(4, (.negSucc 0))]), 0, 0)
noncomputable def c39_8_p2 : PE := (71, [0, 1, 2, 3, 4, 5], (10, [(0, (.ofNat 0), (.ofNat 60)), (1, (.negSucc 2147483647), (.ofNat 2147483647)), (2, (.ofNat 0), (.ofNat 60)), (3, (.ofNat 0), (.ofNat 60)), (4, (.negSucc 0), (.ofNat 127)), (5, (.ofNat 0), (.ofNat 60)), (6, (.negSucc 0), (.ofNat 59)), (7, (.negSucc 2147483647), (.ofNat 2147483647)), (8, (.ofNat 0), (.ofNat 60)), (9, (.ofNat 0), (.ofNat 60))], [], [.inr (.inl (some 0)), .inl (false, ((.ofNat 0), [])), .inl (false, ((.ofNat 0), [(2, (.ofNat 1))])), .inl (false, ((.ofNat 0), [(4, (.ofNat 1))])), .inl (false, ((.ofNat 0), [(5, (.ofNat 1))])), .inl (false, ((.ofNat 0), [(6, (.ofNat 1))]))], [zc202,
    zc192,
    zc89,
    .inr (1, .inr (.inl 60))], []), symsL 4 0, some ((.ofNat 62), [(6, (.ofNat 1))]), 0, 0)
noncomputable def c39_8_pts : List PE := [c39_8_p0, c39_8_p1, c39_8_p2]
set_option maxRecDepth 100000 in
theorem c39_8_k : enCtF c39_8 c39_8_e (c39_8_pts ++ []) (none) (noF, noM, 2361183241434822615040, 0, 4) 3000 = true := by decide +kernel
set_option maxRecDepth 100000 in
theorem c39_8_k0 : ptCtF c39_8 c39_8_e (c39_8_pts ++ []) (noF, noM, 2361183241434822615040, 0, 4) 3000 c39_8_p0 = true := by decide +kernel
set_option maxRecDepth 100000 in
theorem c39_8_k1 : ptCtF c39_8 c39_8_e (c39_8_pts ++ []) (noF, noM, 2361183241434822615040, 0, 4) 3000 c39_8_p1 = true := by decide +kernel
set_option maxRecDepth 100000 in
theorem c39_8_k2 : ptCtF c39_8 c39_8_e (c39_8_pts ++ []) (noF, noM, 2361183241434822615040, 0, 4) 3000 c39_8_p2 = true := by decide +kernel
set_option maxRecDepth 100000 in
theorem c39_8_v : ValidC PPk c39_8 := ct_ok fpk ⟨noF_ok, noM_ok⟩ (d := 67) (ext := []) (pts := c39_8_pts) (env := c39_8_e) rfl (List.forall_mem_cons.mpr ⟨⟨c40_0_v, Nat.le_of_ble_eq_true rfl⟩, List.forall_mem_cons.mpr ⟨⟨c41_16_v, Nat.le_of_ble_eq_true rfl⟩, List.forall_mem_cons.mpr ⟨⟨c41_17_v, Nat.le_of_ble_eq_true rfl⟩, List.forall_mem_cons.mpr ⟨⟨c44_0_v, Nat.le_of_ble_eq_true rfl⟩, fun _ h => (by cases h)⟩⟩⟩⟩) ext_nil (fun q h => (by cases h)) (enF c39_8_k) (List.forall_mem_cons.mpr ⟨ptF c39_8_k0, List.forall_mem_cons.mpr ⟨ptF c39_8_k1, List.forall_mem_cons.mpr ⟨ptF c39_8_k2, fun _ h => (by cases h)⟩⟩⟩)

noncomputable def c38_8 : Ct := (38, 69, (4, [(0, (.ofNat 0), (.ofNat 60)), (1, (.negSucc 2147483647), (.ofNat 2147483647)), (2, (.ofNat 0), (.ofNat 60)), (3, (.ofNat 0), (.ofNat 60))], [], [.inr (.inl (some 0)), .inl (false, ((.ofNat 0), []))], [zc191,
    zc192,
    zc89,
    .inr (1, .inr (.inl 60))], []),
  [((7, [(4, (.negSucc 2147483647), (.ofNat 2147483647)), (5, (.ofNat 0), (.ofNat 60)), (6, (.ofNat 0), (.ofNat 60))], [], [], [zc200,
    zc192,
    zc89,
    .inr (1, .inr (.inl 60))], []), 0, 0)])
noncomputable def c38_8_e : List Ct := [c39_8, c40_0, c44_0]
noncomputable def c38_8_p0 : PE := (7, [0, 1, 2], (7, [(0, (.ofNat 0), (.ofNat 60)), (1, (.negSucc 2147483647), (.ofNat 2147483647)), (2, (.ofNat 0), (.ofNat 60)), (3, (.ofNat 0), (.ofNat 60)), (4, (.negSucc 2147483647), (.ofNat 2147483647)), (5, (.ofNat 0), (.ofNat 60)), (6, (.ofNat 0), (.ofNat 60))], [], [.inr (.inl (some 0)), .inl (false, ((.ofNat 0), [])), .inl (false, ((.ofNat 0), []))], [zc200,
    zc192,
    zc89,
    .inr (1, .inr (.inl 60))], []), symsL 4 0, some ((.ofNat 121), []), 0, 0)
noncomputable def c38_8_p1 : PE := (7, [0, 1, 2, 3], (9, [(0, (.ofNat 1), (.ofNat 60)), (1, (.negSucc 2147483647), (.ofNat 2147483647)), (2, (.ofNat 0), (.ofNat 60)), (3, (.ofNat 0), (.ofNat 60)), (4, (.ofNat 1), (.ofNat 60)), (5, (.ofNat 42), (.ofNat 47)), (6, (.negSucc 2147483647), (.ofNat 2147483647)), (7, (.ofNat 0), (.ofNat 60)), (8, (.ofNat 1), (.ofNat 60))], [], [.inr (.inl (some 0)), .inl (false, ((.ofNat 0), [])), .inl (false, ((.ofNat 0), [(4, (.ofNat 1))])), .inl (false, ((.ofNat 0), [(5, (.ofNat 1))]))], [zc203,
    zc192,
    zc89,
    .inr (1, .inr (.inl 60))], []), symsL 4 0, some ((.ofNat 121), [(4, (.negSucc 0))]), 0, 0)
noncomputable def c38_8_pts : List PE := [c38_8_p0, c38_8_p1]
set_option maxRecDepth 100000 in
theorem c38_8_k : enCtF c38_8 c38_8_e (c38_8_pts ++ []) (none) (noF, noM, 128, 0, 4) 3000 = true := by decide +kernel
set_option maxRecDepth 100000 in
theorem c38_8_k0 : ptCtF c38_8 c38_8_e (c38_8_pts ++ []) (noF, noM, 128, 0, 4) 3000 c38_8_p0 = true := by decide +kernel
set_option maxRecDepth 100000 in
theorem c38_8_k1 : ptCtF c38_8 c38_8_e (c38_8_pts ++ []) (noF, noM, 128, 0, 4) 3000 c38_8_p1 = true := by decide +kernel
set_option maxRecDepth 100000 in
theorem c38_8_v : ValidC PPk c38_8 := ct_ok fpk ⟨noF_ok, noM_ok⟩ (d := 68) (ext := []) (pts := c38_8_pts) (env := c38_8_e) rfl (List.forall_mem_cons.mpr ⟨⟨c39_8_v, Nat.le_of_ble_eq_true rfl⟩, List.forall_mem_cons.mpr ⟨⟨c40_0_v, Nat.le_of_ble_eq_true rfl⟩, List.forall_mem_cons.mpr ⟨⟨c44_0_v, Nat.le_of_ble_eq_true rfl⟩, fun _ h => (by cases h)⟩⟩⟩) ext_nil (fun q h => (by cases h)) (enF c38_8_k) (List.forall_mem_cons.mpr ⟨ptF c38_8_k0, List.forall_mem_cons.mpr ⟨ptF c38_8_k1, fun _ h => (by cases h)⟩⟩)

noncomputable def c37_8 : Ct := (37, 70, (4, [(0, (.ofNat 0), (.ofNat 60)), (1, (.negSucc 2147483647), (.ofNat 2147483647)), (2, (.ofNat 0), (.ofNat 60)), (3, (.ofNat 0), (.ofNat 60))], [], [.inr (.inl (some 0)), .inl (false, ((.ofNat 0), []))], [zc191,
    zc192,
    zc89,
    .inr (1, .inr (.inl 60))], []),
  [((7, [(4, (.negSucc 2147483647), (.ofNat 2147483647)), (5, (.ofNat 0), (.ofNat 60)), (6, (.ofNat 0), (.ofNat 60))], [], [], [zc200,
    zc192,
    zc89,
    .inr (1, .inr (.inl 60))], []), 0, 0)])
noncomputable def c37_8_e : List Ct := [c38_8, c40_0, c44_0]
noncomputable def c37_8_p0 : PE := (7, [0, 1, 2], (7, [(0, (.ofNat 0), (.ofNat 60)), (1, (.negSucc 2147483647), (.ofNat 2147483647)), (2, (.ofNat 0), (.ofNat 60)), (3, (.ofNat 0), (.ofNat 60)), (4, (.negSucc 2147483647), (.ofNat 2147483647)), (5, (.ofNat 0), (.ofNat 60)), (6, (.ofNat 0), (.ofNat 60))], [], [.inr (.inl (some 0)), .inl (false, ((.ofNat 0), [])), .inl (false, ((.ofNat 0), []))], [zc200,
    zc192,
    zc89,
    .inr (1, .inr (.inl 60))], []), symsL 4 0, some ((.ofNat 121), []), 0, 0)
noncomputable def c37_8_p1 : PE := (7, [0, 1, 2, 3], (9, [(0, (.ofNat 1), (.ofNat 60)), (1, (.negSucc 2147483647), (.ofNat 2147483647)), (2, (.ofNat 0), (.ofNat 60)), (3, (.ofNat 0), (.ofNat 60)), (4, (.ofNat 1), (.ofNat 60)), (5, (.ofNat 43), (.ofNat 45)), (6, (.negSucc 2147483647), (.ofNat 2147483647)), (7, (.ofNat 0), (.ofNat 60)), (8, (.ofNat 1), (.ofNat 60))], [], [.inr (.inl (some 0)), .inl (false, ((.ofNat 0), [])), .inl (false, ((.ofNat 0), [(4, (.ofNat 1))])), .inl (false, ((.ofNat 0), [(5, (.ofNat 1))]))], [zc203,
    zc192,
    zc89,
    .inr (1, .inr (.inl 60))], []), symsL 4 0, some ((.ofNat 121), [(4, (.negSucc 0))]), 0, 0)
noncomputable def c37_8_pts : List PE := [c37_8_p0, c37_8_p1]
set_option maxRecDepth 100000 in
theorem c37_8_k : enCtF c37_8 c37_8_e (c37_8_pts ++ []) (none) (noF, noM, 128, 0, 4) 3000 = true := by decide +kernel
set_option maxRecDepth 100000 in
theorem c37_8_k0 : ptCtF c37_8 c37_8_e (c37_8_pts ++ []) (noF, noM, 128, 0, 4) 3000 c37_8_p0 = true := by decide +kernel
set_option maxRecDepth 100000 in
theorem c37_8_k1 : ptCtF c37_8 c37_8_e (c37_8_pts ++ []) (noF, noM, 128, 0, 4) 3000 c37_8_p1 = true := by decide +kernel
set_option maxRecDepth 100000 in
theorem c37_8_v : ValidC PPk c37_8 := ct_ok fpk ⟨noF_ok, noM_ok⟩ (d := 69) (ext := []) (pts := c37_8_pts) (env := c37_8_e) rfl (List.forall_mem_cons.mpr ⟨⟨c38_8_v, Nat.le_of_ble_eq_true rfl⟩, List.forall_mem_cons.mpr ⟨⟨c40_0_v, Nat.le_of_ble_eq_true rfl⟩, List.forall_mem_cons.mpr ⟨⟨c44_0_v, Nat.le_of_ble_eq_true rfl⟩, fun _ h => (by cases h)⟩⟩⟩) ext_nil (fun q h => (by cases h)) (enF c37_8_k) (List.forall_mem_cons.mpr ⟨ptF c37_8_k0, List.forall_mem_cons.mpr ⟨ptF c37_8_k1, fun _ h => (by cases h)⟩⟩)

noncomputable def c36_8 : Ct := (36, 71, (4, [(0, (.ofNat 0), (.ofNat 60)), (1, (.negSucc 2147483647), (.ofNat 2147483647)), (2, (.ofNat 0), (.ofNat 60)), (3, (.ofNat 0), (.ofNat 60))], [], [.inr (.inl (some 0)), .inl (false, ((.ofNat 0), []))], [zc191,
    zc192,
    zc89,
    .inr (1, .inr (.inl 60))], []),
  [((7, [(4, (.negSucc 2147483647), (.ofNat 2147483647)), (5, (.ofNat 0), (.ofNat 60)), (6, (.ofNat 0), (.ofNat 60))], [], [], [zc200,
    zc192,
    zc89,
    .inr (1, .inr (.inl 60))], []), 0, 0)])
noncomputable def c36_8_e : List Ct := [c37_8, c40_0, c44_0]
noncomputable def c36_8_pts : List PE := []
set_option maxRecDepth 100000 in
theorem c36_8_k : enCtF c36_8 c36_8_e (c36_8_pts ++ []) (none) noH 3000 = true := by decide +kernel
set_option maxRecDepth 100000 in
theorem c36_8_v : ValidC PPk c36_8 := ct_ok fpk noH_ok (d := 70) (ext := []) (pts := c36_8_pts) (env := c36_8_e) rfl (List.forall_mem_cons.mpr ⟨⟨c37_8_v, Nat.le_of_ble_eq_true rfl⟩, List.forall_mem_cons.mpr ⟨⟨c40_0_v, Nat.le_of_ble_eq_true rfl⟩, List.forall_mem_cons.mpr ⟨⟨c44_0_v, Nat.le_of_ble_eq_true rfl⟩, fun _ h => (by cases h)⟩⟩⟩) ext_nil (fun q h => (by cases h)) (enF c36_8_k) (fun _ h => (by cases h))

noncomputable def c35_8 : Ct := (35, 72, (4, [(0, (.ofNat 0), (.ofNat 60)), (1, (.negSucc 2147483647), (.ofNat 2147483647)), (2, (.ofNat 0), (.ofNat 60)), (3, (.ofNat 0), (.ofNat 60))], [], [.inr (.inl (some 0)), .inl (false, ((.ofNat 0), []))], [zc191,
    zc192,
    zc89,
    .inr (1, .inr (.inl 60))], []),
  [((7, [(4, (.negSucc 2147483647), (.ofNat 2147483647)), (5, (.ofNat 0), (.ofNat 60)), (6, (.ofNat 0), (.ofNat 60))], [], [], [zc200,
    zc192,
    zc89,
    .inr (1, .inr (.inl 60))], []), 0, 0)])
noncomputable def c35_8_e : List Ct := [c36_8, c40_0, c44_0]
noncomputable def c35_8_p0 : PE := (7, [0, 1, 2], (8, [(0, (.ofNat 0), (.ofNat 60)), (1, (.negSucc 2147483647), (.ofNat 2147483647)), (2, (.ofNat 0), (.ofNat 60)), (3, (.ofNat 0), (.ofNat 60)), (4, (.ofNat 0), (.ofNat 60)), (5, (.negSucc 2147483647), (.ofNat 2147483647)), (6, (.ofNat 0), (.ofNat 60)), (7, (.ofNat 0), (.ofNat 60))], [], [.inr (.inl (some 0)), .inl (false, ((.ofNat 0), [])), .inl (false, ((.ofNat 0), [(4, (.ofNat 1))]))], [zc204,
    zc192,
    zc89,
    .inr (1, .inr (.inl 60))], []), symsL 4 0, some ((.ofNat 121), [(4, (.negSucc 0))]), 0, 0)
noncomputable def c35_8_pts : List PE := [c35_8_p0]
set_option maxRecDepth 100000 in
theorem c35_8_k : enCtF c35_8 c35_8_e (c35_8_pts ++ []) (none) (noF, noM, 128, 0, 4) 3000 = true := by decide +kernel
set_option maxRecDepth 100000 in
theorem c35_8_k0 : ptCtF c35_8 c35_8_e (c35_8_pts ++ []) (noF, noM, 128, 0, 4) 3000 c35_8_p0 = true := by decide +kernel
set_option maxRecDepth 100000 in
theorem c35_8_v : ValidC PPk c35_8 := ct_ok fpk ⟨noF_ok, noM_ok⟩ (d := 71) (ext := []) (pts := c35_8_pts) (env := c35_8_e) rfl (List.forall_mem_cons.mpr ⟨⟨c36_8_v, Nat.le_of_ble_eq_true rfl⟩, List.forall_mem_cons.mpr ⟨⟨c40_0_v, Nat.le_of_ble_eq_true rfl⟩, List.forall_mem_cons.mpr ⟨⟨c44_0_v, Nat.le_of_ble_eq_true rfl⟩, fun _ h => (by cases h)⟩⟩⟩) ext_nil (fun q h => (by cases h)) (enF c35_8_k) (List.forall_mem_cons.mpr ⟨ptF c35_8_k0, fun _ h => (by cases h)⟩)

noncomputable def c34_8 : Ct := (34, 73, (4, [(0, (.ofNat 0), (.ofNat 60)), (1, (.negSucc 2147483647), (.ofNat 2147483647)), (2, (.ofNat 0), (.ofNat 60)), (3, (.ofNat 0), (.ofNat 60))], [], [.inr (.inl (some 0)), .inl (false, ((.ofNat 0), []))], [zc191,
    zc192,
    zc89,
    .inr (1, .inr (.inl 60))], []),
  [((7, [(4, (.negSucc 2147483647), (.ofNat 2147483647)), (5, (.ofNat 0), (.ofNat 60)), (6, (.ofNat 0), (.ofNat 60))], [], [], [zc200,
    zc192,
    zc89,
    .inr (1, .inr (.inl 60))], []), 0, 0)])
noncomputable def c34_8_e : List Ct := [c35_8, c40_0, c44_0]
noncomputable def c34_8_p0 : PE := (7, [0, 1, 2], (8, [(0, (.ofNat 0), (.ofNat 60)), (1, (.negSucc 2147483647), (.ofNat 2147483647)), (2, (.ofNat 0), (.ofNat 60)), (3, (.ofNat 0), (.ofNat 60)), (4, (.ofNat 0), (.ofNat 60)), (5, (.negSucc 2147483647), (.ofNat 2147483647)), (6, (.ofNat 0), (.ofNat 60)), (7, (.ofNat 0), (.ofNat 60))], [], [.inr (.inl (some 0)), .inl (false, ((.ofNat 0), [])), .inl (false, ((.ofNat 0), [(4, (.ofNat 1))]))], [zc204,
    zc192,
    zc89,
    .inr (1, .inr (.inl 60))], []), symsL 4 0, some ((.ofNat 121), [(4, (.negSucc 0))]), 0, 0)
noncomputable def c34_8_pts : List PE := [c34_8_p0]
set_option maxRecDepth 100000 in
theorem c34_8_k : enCtF c34_8 c34_8_e (c34_8_pts ++ []) (none) (noF, noM, 128, 0, 4) 3000 = true := by decide +kernel
set_option maxRecDepth 100000 in
theorem c34_8_k0 : ptCtF c34_8 c34_8_e (c34_8_pts ++ []) (noF, noM, 128, 0, 4) 3000 c34_8_p0 = true := by decide +kernel
set_option maxRecDepth 100000 in
theorem c34_8_v : ValidC PPk c34_8 := ct_ok fpk ⟨noF_ok, noM_ok⟩ (d := 72) (ext := []) (pts := c34_8_pts) (env := c34_8_e) rfl (List.forall_mem_cons.mpr ⟨⟨c35_8_v, Nat.le_of_ble_eq_true rfl⟩, List.forall_mem_cons.mpr ⟨⟨c40_0_v, Nat.le_of_ble_eq_true rfl⟩, List.forall_mem_cons.mpr ⟨⟨c44_0_v, Nat.le_of_ble_eq_true rfl⟩, fun _ h => (by cases h)⟩⟩⟩) ext_nil (fun q h => (by cases h)) (enF c34_8_k) (List.forall_mem_cons.mpr ⟨ptF c34_8_k0, fun _ h => (by cases h)⟩)

noncomputable def c33_0 : Ct := (33, 74, (4, [(0, (.ofNat 0), (.ofNat 60)), (1, (.negSucc 2147483647), (.ofNat 2147483647)), (2, (.ofNat 0), (.ofNat 60)), (3, (.ofNat 0), (.ofNat 60))], [], [.inr (.inl (some 0))], [zc191,
    zc192,
    zc89,
    .inr (1, .inr (.inl 60))], []),
  [((7, [(4, (.negSucc 2147483647), (.ofNat 2147483647)), (5, (.ofNat 0), (.ofNat 60)), (6, (.ofNat 0), (.ofNat 60))], [], [], [zc200,
    zc192,
    zc89,
    .inr (1, .inr (.inl 60))], []), 0, 0)])
noncomputable def c33_0_e : List Ct := [c34_8, c43_0]
noncomputable def c33_0_pts : List PE := []
set_option maxRecDepth 100000 in
theorem c33_0_k : enCtF c33_0 c33_0_e (c33_0_pts ++ []) (none) noH 3000 = true := by decide +kernel
set_option maxRecDepth 100000 in
theorem c33_0_v : ValidC PPk c33_0 := ct_ok fpk noH_ok (d := 73) (ext := []) (pts := c33_0_pts) (env := c33_0_e) rfl (List.forall_mem_cons.mpr ⟨⟨c34_8_v, Nat.le_of_ble_eq_true rfl⟩, List.forall_mem_cons.mpr ⟨⟨c43_0_v, Nat.le_of_ble_eq_true rfl⟩, fun _ h => (by cases h)⟩⟩) ext_nil (fun q h => (by cases h)) (enF c33_0_k) (fun _ h => (by cases h))

noncomputable def c32_0 : Ct := (32, 75, (5, [(0, (.ofNat 0), (.ofNat 127)), (1, (.ofNat 0), (.ofNat 60)), (2, (.negSucc 2147483647), (.ofNat 2147483647)), (3, (.ofNat 0), (.ofNat 60)), (4, (.ofNat 0), (.ofNat 60))], [], [.inr (.inl (some 0)), .inl (false, ((.ofNat 0), [(0, (.ofNat 1))]))], [zc198,
    zc192,
    zc89,
    .inr (1, .inr (.inl 60))], []),
  [((9, [(5, (.ofNat 1), (.ofNat 60)), (6, (.negSucc 2147483647), (.ofNat 2147483647)), (7, (.ofNat 0), (.ofNat 60)), (8, (.ofNat 0), (.ofNat 60))], [], [], [.inl (5, [.inl (false, ((.ofNat 0), [(5, (.ofNat 1))])), .inr (.inl (some 1)), .inl (false, ((.ofNat 0), [(6, (.ofNat 1))])), .inl (false, ((.ofNat 0), [(7, (.ofNat 1))])), .inl (false, ((.ofNat 0), [(8, (.ofNat 1))])), .inr (.inl (some 2)), .inr (.inl (some 3))]),
    zc192,
    zc89,
    .inr (1, .inr (.inl 60))], []), 0, 0)])
noncomputable def c32_0_e : List Ct := [c33_0]
noncomputable def c32_0_pts : List PE := []
set_option maxRecDepth 100000 in
theorem c32_0_k : enCtF c32_0 c32_0_e (c32_0_pts ++ []) (none) noH 3000 = true := by decide +kernel
set_option maxRecDepth 100000 in
theorem c32_0_v : ValidC PPk c32_0 := ct_ok fpk noH_ok (d := 74) (ext := []) (pts := c32_0_pts) (env := c32_0_e) rfl (List.forall_mem_cons.mpr ⟨⟨c33_0_v, Nat.le_of_ble_eq_true rfl⟩, fun _ h => (by cases h)⟩) ext_nil (fun q h => (by cases h)) (enF c32_0_k) (fun _ h => (by cases h))

def zc205 : AC := .inl (6, [.inl (false, ((.ofNat 0), [(36, (.ofNat 1))])), .inr (.inl (some 33)), .inr (.inl (some 34)), .inr (.inl (some 35)), .inr (.inl (some 36)), .inr (.inl (some 37))])
def zc206 : AC := .inl (7, [.inr (.inl (some 42)), .inl (false, ((.ofNat 0), [(45, (.ofNat 1))])), .inr (.inl (some 51)), .inr (.inl (some 55)), .inr (.inl (some 56)), .inl (false, ((.ofNat 0), [(46, (.ofNat 1))])), .inl (false, ((.ofNat 0), [(47, (.ofNat 1))])), .inl (false, ((.ofNat 0), [(48, (.ofNat 1))])), .inl (false, ((.ofNat 0), [(49, (.ofNat 1))])), .inl (false, ((.ofNat 0), [(50, (.ofNat 1))])), .inl (false, ((.ofNat 0), [(51, (.ofNat 1))])), .inl (false, ((.ofNat 0), [(52, (.ofNat 1))])), .inl (false, ((.ofNat 0), [(53, (.ofNat 1))])), .inl (false, ((.ofNat 0), [(54, (.ofNat 1))])), .inl (false, ((.ofNat 0), [(55, (.ofNat 1))])), .inl (false, ((.ofNat 0), [(56, (.ofNat 1))])), .inl (false, ((.ofNat 0), [(57, (.ofNat 1))]))])
def zc207 : AC := .inl (8, [.inr (.inl (some 44)), .inl (false, ((.ofNat 0), [(58, (.ofNat 1))])), .inl (false, ((.ofNat 0), [(59, (.ofNat 1))])), .inl (false, ((.ofNat 0), [(60, (.ofNat 1))])), .inl (false, ((.ofNat 0), [(61, (.ofNat 1))]))])
def zc208 : AC := .inr (100, .inl [.inl ((.ofNat 0), [(62, (.ofNat 1))])])
def zc209 : AC := .inl (8, [.inr (.inl (some 46)), .inl (false, ((.ofNat 0), [(63, (.ofNat 1))])), .inl (false, ((.ofNat 0), [(64, (.ofNat 1))])), .inl (false, ((.ofNat 0), [(65, (.ofNat 1))])), .inl (false, ((.ofNat 0), [(66, (.ofNat 1))]))])
def zc210 : AC := .inr (100, .inl [.inl ((.ofNat 0), [(67, (.ofNat 1))])])
def zc211 : AC := .inr (100, .inl [.inl ((.ofNat 0), [(72, (.ofNat 1))])])
def zc212 : AC := .inl (8, [.inr (.inl (some 50)), .inl (false, ((.ofNat 0), [(73, (.ofNat 1))])), .inl (false, ((.ofNat 0), [(74, (.ofNat 1))])), .inl (false, ((.ofNat 0), [(75, (.ofNat 1))])), .inl (false, ((.ofNat 0), [(76, (.ofNat 1))]))])
def zc213 : AC := .inl (9, [.inr (.inl (some 52)), .inr (.inl (some 53)), .inr (.inl (some 54)), .inl (false, ((.ofNat 0), [(78, (.ofNat 1))]))])
noncomputable def c31_0 : Ct := (31, 76, (84, [(0, (.negSucc 2147483647), (.ofNat 2147483647)), (1, (.ofNat 1), (.ofNat 4)), (2, (.negSucc 2147483647), (.ofNat 2147483647)), (3, (.negSucc 2147483647), (.ofNat 2147483647)), (4, (.ofNat 1), (.ofNat 1000)), (5, (.ofNat 0), (.ofNat 50)), (6, (.ofNat 0), (.ofNat 10)), (7, (.ofNat 0), (.ofNat 60)), (12, (.ofNat 0), (.ofNat 60)), (17, (.ofNat 0), (.ofNat 8)), (25, (.ofNat 0), (.ofNat 6)), (32, (.ofNat 0), (.ofNat 60)), (33, (.negSucc 2147483647), (.ofNat 2147483647)), (34, (.ofNat 0), (.ofNat 60)), (35, (.ofNat 0), (.ofNat 60)), (36, (.ofNat 0), (.ofNat 8)), (45, (.negSucc 2147483647), (.ofNat 2147483647)), (46, (.negSucc 2147483647), (.ofNat 2147483647)), (47, (.negSucc 2147483647), (.ofNat 2147483647)), (48, (.negSucc 2147483647), (.ofNat 2147483647)), (49, (.negSucc 2147483647), (.ofNat 2147483647)), (50, (.negSucc 2147483647), (.ofNat 2147483647)), (51, (.ofNat 0), (.ofNat 3)), (52, (.negSucc 2147483647), (.ofNat 2147483647)), (53, (.negSucc 2147483647), (.ofNat 2147483647)), (54, (.negSucc 2147483647), (.ofNat 2147483647)), (55, (.negSucc 2147483647), (.ofNat 2147483647)), (56, (.ofNat 0), (.ofNat 1)), (57, (.negSucc 2147483647), (.ofNat 2147483647)), (58, (.negSucc 2147483647), (.ofNat 2147483647)), (59, (.negSucc 2147483647), (.ofNat 2147483647)), (60, (.negSucc 2147483647), (.ofNat 2147483647)), (61, (.negSucc 2147483647), (.ofNat 2147483647)), (63, (.negSucc 2147483647), (.ofNat 2147483647)), (64, (.negSucc 2147483647), (.ofNat 2147483647)), (65, (.negSucc 2147483647), (.ofNat 2147483647)), (66, (.negSucc 2147483647), (.ofNat 2147483647)), (68, (.negSucc 2147483647), (.ofNat 2147483647)), (69, (.negSucc 2147483647), (.ofNat 2147483647)), (70, (.negSucc 2147483647), (.ofNat 2147483647)), (71, (.negSucc 2147483647), (.ofNat 2147483647)), (73, (.negSucc 2147483647), (.ofNat 2147483647)), (74, (.negSucc 2147483647), (.ofNat 2147483647)), (75, (.negSucc 2147483647), (.ofNat 2147483647)), (76, (.negSucc 2147483647), (.ofNat 2147483647)), (78, (.negSucc 2147483647), (.ofNat 2147483647))], [], [.inr (.inl (some 0)), .inl (false, ((.ofNat 0), [(0, (.ofNat 1))]))], [zc21,
    zc39,
    .inr (4, .inr (.inr [some 3, some 8])),
    zc40,
    zc41,
    zc42,
    zc43,
    zc44,
    zc45,
    zc46,
    zc47,
    zc48,
    zc49,
    zc50,
    zc51,
    zc52,
    zc53,
    zc54,
    zc55,
    zc56,
    zc57,
    zc58,
    zc59,
    zc60,
    zc61,
    zc62,
    zc63,
    zc30,
    zc64,
    zc192,
    zc89,
    .inr (1, .inr (.inl 60)),
    zc205,
    zc66,
    zc102,
    zc68,
    zc69,
    zc70,
    zc71,
    zc72,
    zc73,
    zc206,
    zc77,
    zc207,
    zc208,
    zc209,
    zc210,
    zc80,
    zc211,
    zc212,
    zc83,
    zc213,
    zc85,
    zc86,
    zc87,
    zc126,
    zc127,
    zc22,
    .inr (1, .inr (.inl 6)),
    .inr (1, .inr (.inl 4)),
    .inr (6, .inr (.inr [none, none])),
    .inr (7, .inr (.inr [none, none]))], [(0, [4, 5, 6, 7], []), (0, [9, 10, 11, 12], [])]),
  [((89, [(84, (.negSucc 3), (.ofNat 60)), (85, (.ofNat 0), (.ofNat 60)), (86, (.negSucc 2147483647), (.ofNat 2147483647)), (87, (.ofNat 0), (.ofNat 60)), (88, (.ofNat 0), (.ofNat 60))], [], [.inl (false, ((.ofNat 0), [(84, (.ofNat 1))]))], [zc21,
    zc39,
    .inr (4, .inr (.inr [some 3, some 8])),
    zc40,
    zc41,
    zc42,
    zc43,
    zc44,
    zc45,
    zc46,
    zc47,
    zc48,
    zc49,
    zc50,
    zc51,
    zc52,
    zc53,
    zc54,
    zc55,
    zc56,
    zc57,
    zc58,
    zc59,
    zc60,
    zc61,
    zc62,
    zc63,
    zc30,
    .inl (5, [.inl (false, ((.ofNat 0), [(85, (.ofNat 1))])), .inr (.inl (some 29)), .inl (false, ((.ofNat 0), [(86, (.ofNat 1))])), .inl (false, ((.ofNat 0), [(87, (.ofNat 1))])), .inl (false, ((.ofNat 0), [(88, (.ofNat 1))])), .inr (.inl (some 30)), .inr (.inl (some 31))]),
    zc192,
    zc89,
    .inr (1, .inr (.inl 60)),
    zc205,
    zc66,
    zc102,
    zc68,
    zc69,
    zc70,
    zc71,
    zc72,
    zc73,
    zc206,
    zc77,
    zc207,
    zc208,
    zc209,
    zc210,
    zc80,
    zc211,
    zc212,
    zc83,
    zc213,
    zc85,
    zc86,
    zc87,
    zc126,
    zc127,
    zc22,
    .inr (1, .inr (.inl 6)),
    .inr (1, .inr (.inl 4)),
    .inr (6, .inr (.inr [none, none])),
    .inr (7, .inr (.inr [none, none]))], [(0, [4, 5, 6, 7], []), (0, [9, 10, 11, 12], [])]), 0, 0)])
noncomputable def c31_0_e : List Ct := [c12_0, c32_0]
noncomputable def c31_0_pts : List PE := []
set_option maxRecDepth 100000 in
theorem c31_0_k : enCtF c31_0 c31_0_e (c31_0_pts ++ []) (none) noH 3000 = true := by decide +kernel
set_option maxRecDepth 100000 in
theorem c31_0_v : ValidC PPk c31_0 := ct_ok fpk noH_ok (d := 75) (ext := []) (pts := c31_0_pts) (env := c31_0_e) rfl (List.forall_mem_cons.mpr ⟨⟨c12_0_v, Nat.le_of_ble_eq_true rfl⟩, List.forall_mem_cons.mpr ⟨⟨c32_0_v, Nat.le_of_ble_eq_true rfl⟩, fun _ h => (by cases h)⟩⟩) ext_nil (fun q h => (by cases h)) (enF c31_0_k) (fun _ h => (by cases h))

noncomputable def c47_0 : Ct := (47, 75, (4, [(0, (.ofNat 0), (.ofNat 60)), (1, (.negSucc 2147483647), (.ofNat 2147483647)), (2, (.ofNat 0), (.ofNat 60)), (3, (.ofNat 0), (.ofNat 60))], [], [.inr (.inl (some 0))], [zc191,
    zc192,
    zc89,
    .inr (1, .inr (.inl 60))], []),
  [((7, [(4, (.negSucc 2147483647), (.ofNat 2147483647)), (5, (.ofNat 0), (.ofNat 60)), (6, (.ofNat 0), (.ofNat 60))], [], [], [.inl (5, [.inl (false, ((.ofNat 0), [])), .inr (.inl (some 1)), .inl (false, ((.ofNat 0), [(4, (.ofNat 1))])), .inl (false, ((.ofNat 0), [(5, (.ofNat 1))])), .inl (false, ((.ofNat 0), [(6, (.ofNat 1))])), .inr (.inl (some 2)), .inr (.inl (some 3))]),
    zc192,
    zc89,
    .inr (1, .inr (.inl 60))], []), 0, 0)])
noncomputable def c47_0_e : List Ct := [c33_0]
noncomputable def c47_0_pts : List PE := []
set_option maxRecDepth 100000 in
theorem c47_0_k : enCtF c47_0 c47_0_e (c47_0_pts ++ []) (none) noH 3000 = true := by decide +kernel
set_option maxRecDepth 100000 in
theorem c47_0_v : ValidC PPk c47_0 := ct_ok fpk noH_ok (d := 74) (ext := []) (pts := c47_0_pts) (env := c47_0_e) rfl (List.forall_mem_cons.mpr ⟨⟨c33_0_v, Nat.le_of_ble_eq_true rfl⟩, fun _ h => (by cases h)⟩) ext_nil (fun q h => (by cases h)) (enF c47_0_k) (fun _ h => (by cases h))

def zc214 : AC := .inl (6, [.inl (false, ((.ofNat 0), [(35, (.ofNat 1))])), .inr (.inl (some 33)), .inr (.inl (some 34)), .inr (.inl (some 35)), .inr (.inl (some 36)), .inr (.inl (some 37))])
def zc215 : AC := .inl (7, [.inr (.inl (some 42)), .inl (false, ((.ofNat 0), [(44, (.ofNat 1))])), .inr (.inl (some 51)), .inr (.inl (some 55)), .inr (.inl (some 56)), .inl (false, ((.ofNat 0), [(45, (.ofNat 1))])), .inl (false, ((.ofNat 0), [(46, (.ofNat 1))])), .inl (false, ((.ofNat 0), [(47, (.ofNat 1))])), .inl (false, ((.ofNat 0), [(48, (.ofNat 1))])), .inl (false, ((.ofNat 0), [(49, (.ofNat 1))])), .inl (false, ((.ofNat 0), [(50, (.ofNat 1))])), .inl (false, ((.ofNat 0), [(51, (.ofNat 1))])), .inl (false, ((.ofNat 0), [(52, (.ofNat 1))])), .inl (false, ((.ofNat 0), [(53, (.ofNat 1))])), .inl (false, ((.ofNat 0), [(54, (.ofNat 1))])), .inl (false, ((.ofNat 0), [(55, (.ofNat 1))])), .inl (false, ((.ofNat 0), [(56, (.ofNat 1))]))])
def zc216 : AC := .inl (8, [.inr (.inl (some 44)), .inl (false, ((.ofNat 0), [(57, (.ofNat 1))])), .inl (false, ((.ofNat 0), [(58, (.ofNat 1))])), .inl (false, ((.ofNat 0), [(59, (.ofNat 1))])), .inl (false, ((.ofNat 0), [(60, (.ofNat 1))]))])
def zc217 : AC := .inr (100, .inl [.inl ((.ofNat 0), [(61, (.ofNat 1))])])
def zc218 : AC := .inl (8, [.inr (.inl (some 46)), .inl (false, ((.ofNat 0), [(62, (.ofNat 1))])), .inl (false, ((.ofNat 0), [(63, (.ofNat 1))])), .inl (false, ((.ofNat 0), [(64, (.ofNat 1))])), .inl (false, ((.ofNat 0), [(65, (.ofNat 1))]))])
def zc219 : AC := .inl (8, [.inr (.inl (some 48)), .inl (false, ((.ofNat 0), [(67, (.ofNat 1))])), .inl (false, ((.ofNat 0), [(68, (.ofNat 1))])), .inl (false, ((.ofNat 0), [(69, (.ofNat 1))])), .inl (false, ((.ofNat 0), [(70, (.ofNat 1))]))])
def zc220 : AC := .inl (9, [.inr (.inl (some 52)), .inr (.inl (some 53)), .inr (.inl (some 54)), .inl (false, ((.ofNat 0), [(77, (.ofNat 1))]))])
noncomputable def c46_0 : Ct := (46, 76, (83, [(0, (.ofNat 1), (.ofNat 4)), (1, (.negSucc 2147483647), (.ofNat 2147483647)), (2, (.negSucc 2147483647), (.ofNat 2147483647)), (3, (.ofNat 1), (.ofNat 1000)), (4, (.ofNat 0), (.ofNat 50)), (5, (.ofNat 0), (.ofNat 10)), (6, (.ofNat 0), (.ofNat 60)), (11, (.ofNat 0), (.ofNat 60)), (16, (.ofNat 0), (.ofNat 8)), (24, (.ofNat 0), (.ofNat 6)), (31, (.ofNat 0), (.ofNat 60)), (32, (.negSucc 2147483647), (.ofNat 2147483647)), (33, (.ofNat 0), (.ofNat 60)), (34, (.ofNat 0), (.ofNat 60)), (35, (.ofNat 0), (.ofNat 8)), (44, (.negSucc 2147483647), (.ofNat 2147483647)), (45, (.negSucc 2147483647), (.ofNat 2147483647)), (46, (.negSucc 2147483647), (.ofNat 2147483647)), (47, (.negSucc 2147483647), (.ofNat 2147483647)), (48, (.negSucc 2147483647), (.ofNat 2147483647)), (49, (.negSucc 2147483647), (.ofNat 2147483647)), (50, (.ofNat 0), (.ofNat 3)), (51, (.negSucc 2147483647), (.ofNat 2147483647)), (52, (.negSucc 2147483647), (.ofNat 2147483647)), (53, (.negSucc 2147483647), (.ofNat 2147483647)), (54, (.negSucc 2147483647), (.ofNat 2147483647)), (55, (.ofNat 0), (.ofNat 1)), (56, (.negSucc 2147483647), (.ofNat 2147483647)), (57, (.negSucc 2147483647), (.ofNat 2147483647)), (58, (.negSucc 2147483647), (.ofNat 2147483647)), (59, (.negSucc 2147483647), (.ofNat 2147483647)), (60, (.negSucc 2147483647), (.ofNat 2147483647)), (62, (.negSucc 2147483647), (.ofNat 2147483647)), (63, (.negSucc 2147483647), (.ofNat 2147483647)), (64, (.negSucc 2147483647), (.ofNat 2147483647)), (65, (.negSucc 2147483647), (.ofNat 2147483647)), (67, (.negSucc 2147483647), (.ofNat 2147483647)), (68, (.negSucc 2147483647), (.ofNat 2147483647)), (69, (.negSucc 2147483647), (.ofNat 2147483647)), (70, (.negSucc 2147483647), (.ofNat 2147483647)), (72, (.negSucc 2147483647), (.ofNat 2147483647)), (73, (.negSucc 2147483647), (.ofNat 2147483647)), (74, (.negSucc 2147483647), (.ofNat 2147483647)), (75, (.negSucc 2147483647), (.ofNat 2147483647)), (77, (.negSucc 2147483647), (.ofNat 2147483647))], [], [.inr (.inl (some 0))], [zc21,
    zc150,
    .inr (4, .inr (.inr [some 3, some 8])),
    zc151,
    zc152,
    zc41,
    zc42,
    zc43,
    zc93,
    zc118,
    zc46,
    zc47,
    zc48,
    zc153,
    zc95,
    zc51,
    zc52,
    zc53,
    zc54,
    zc55,
    zc56,
    zc138,
    zc97,
    zc59,
    zc60,
    zc61,
    zc62,
    zc63,
    zc139,
    zc192,
    zc89,
    .inr (1, .inr (.inl 60)),
    zc214,
    zc101,
    zc66,
    zc102,
    zc68,
    zc69,
    zc70,
    zc71,
    zc72,
    zc215,
    zc77,
    zc216,
    zc217,
    zc218,
    zc183,
    zc219,
    zc185,
    zc81,
    zc113,
    zc220,
    zc84,
    zc85,
    zc86,
    zc87,
    zc126,
    zc22,
    .inr (1, .inr (.inl 6)),
    .inr (1, .inr (.inl 4)),
    .inr (6, .inr (.inr [none, none])),
    .inr (7, .inr (.inr [none, none]))], [(0, [4, 5, 6, 7], []), (0, [9, 10, 11, 12], [])]),
  [((86, [(83, (.negSucc 2147483647), (.ofNat 2147483647)), (84, (.ofNat 0), (.ofNat 60)), (85, (.ofNat 0), (.ofNat 60))], [], [.inl (false, ((.ofNat 0), [(31, (.ofNat 1))]))], [zc21,
    zc150,
    .inr (4, .inr (.inr [some 3, some 8])),
    zc151,
    zc152,
    zc41,
    zc42,
    zc43,
    zc93,
    zc118,
    zc46,
    zc47,
    zc48,
    zc153,
    zc95,
    zc51,
    zc52,
    zc53,
    zc54,
    zc55,
    zc56,
    zc138,
    zc97,
    zc59,
    zc60,
    zc61,
    zc62,
    zc63,
    .inl (5, [.inl (false, ((.ofNat 0), [])), .inr (.inl (some 29)), .inl (false, ((.ofNat 0), [(83, (.ofNat 1))])), .inl (false, ((.ofNat 0), [(84, (.ofNat 1))])), .inl (false, ((.ofNat 0), [(85, (.ofNat 1))])), .inr (.inl (some 30)), .inr (.inl (some 31))]),
    zc192,
    zc89,
    .inr (1, .inr (.inl 60)),
    zc214,
    zc101,
    zc66,
    zc102,
    zc68,
    zc69,
    zc70,
    zc71,
    zc72,
    zc215,
    zc77,
    zc216,
    zc217,
    zc218,
    zc183,
    zc219,
    zc185,
    zc81,
    zc113,
    zc220,
    zc84,
    zc85,
    zc86,
    zc87,
    zc126,
    zc22,
    .inr (1, .inr (.inl 6)),
    .inr (1, .inr (.inl 4)),
    .inr (6, .inr (.inr [none, none])),
    .inr (7, .inr (.inr [none, none]))], [(0, [4, 5, 6, 7], []), (0, [9, 10, 11, 12], [])]), 0, 0)])
noncomputable def c46_0_e : List Ct := [c47_0]
noncomputable def c46_0_pts : List PE := []
set_option maxRecDepth 100000 in
theorem c46_0_k : enCtF c46_0 c46_0_e (c46_0_pts ++ []) (none) noH 3000 = true := by decide +kernel
set_option maxRecDepth 100000 in
theorem c46_0_v : ValidC PPk c46_0 := ct_ok fpk noH_ok (d := 75) (ext := []) (pts := c46_0_pts) (env := c46_0_e) rfl (List.forall_mem_cons.mpr ⟨⟨c47_0_v, Nat.le_of_ble_eq_true rfl⟩, fun _ h => (by cases h)⟩) ext_nil (fun q h => (by cases h)) (enF c46_0_k) (fun _ h => (by cases h))

noncomputable def c48_0 : Ct := (48, 1, (85, [(0, (.ofNat 1), (.ofNat 4)), (1, (.negSucc 2147483647), (.ofNat 2147483647)), (2, (.negSucc 2147483647), (.ofNat 2147483647)), (3, (.ofNat 1), (.ofNat 1000)), (4, (.ofNat 0), (.ofNat 50)), (5, (.ofNat 0), (.ofNat 10)), (6, (.ofNat 0), (.ofNat 60)), (11, (.ofNat 0), (.ofNat 60)), (16, (.ofNat 0), (.ofNat 8)), (24, (.ofNat 0), (.ofNat 6)), (31, (.ofNat 0), (.ofNat 60)), (32, (.negSucc 2147483647), (.ofNat 2147483647)), (33, (.ofNat 0), (.ofNat 60)), (34, (.ofNat 0), (.ofNat 60)), (37, (.ofNat 0), (.ofNat 8)), (46, (.negSucc 2147483647), (.ofNat 2147483647)), (47, (.negSucc 2147483647), (.ofNat 2147483647)), (48, (.negSucc 2147483647), (.ofNat 2147483647)), (49, (.negSucc 2147483647), (.ofNat 2147483647)), (50, (.negSucc 2147483647), (.ofNat 2147483647)), (51, (.negSucc 2147483647), (.ofNat 2147483647)), (52, (.ofNat 0), (.ofNat 3)), (53, (.negSucc 2147483647), (.ofNat 2147483647)), (54, (.negSucc 2147483647), (.ofNat 2147483647)), (55, (.negSucc 2147483647), (.ofNat 2147483647)), (56, (.negSucc 2147483647), (.ofNat 2147483647)), (57, (.ofNat 0), (.ofNat 1)), (58, (.negSucc 2147483647), (.ofNat 2147483647)), (59, (.negSucc 2147483647), (.ofNat 2147483647)), (60, (.negSucc 2147483647), (.ofNat 2147483647)), (61, (.negSucc 2147483647), (.ofNat 2147483647)), (62, (.negSucc 2147483647), (.ofNat 2147483647)), (64, (.negSucc 2147483647), (.ofNat 2147483647)), (65, (.negSucc 2147483647), (.ofNat 2147483647)), (66, (.negSucc 2147483647), (.ofNat 2147483647)), (67, (.negSucc 2147483647), (.ofNat 2147483647)), (69, (.negSucc 2147483647), (.ofNat 2147483647)), (70, (.negSucc 2147483647), (.ofNat 2147483647)), (71, (.negSucc 2147483647), (.ofNat 2147483647)), (72, (.negSucc 2147483647), (.ofNat 2147483647)), (74, (.negSucc 2147483647), (.ofNat 2147483647)), (75, (.negSucc 2147483647), (.ofNat 2147483647)), (76, (.negSucc 2147483647), (.ofNat 2147483647)), (77, (.negSucc 2147483647), (.ofNat 2147483647)), (79, (.negSucc 2147483647), (.ofNat 2147483647))], [], [.inr (.inl (some 0))], [zc21,
    zc150,
    .inr (4, .inr (.inr [some 3, some 8])),
    zc151,
    zc152,
    zc41,
    zc42,
    zc43,
    zc93,
    zc118,
    zc46,
    zc47,
    zc48,
    zc153,
    zc95,
    zc51,
    zc52,
    zc53,
    zc54,
    zc55,
    zc56,
    zc138,
    zc97,
    zc59,
    zc60,
    zc61,
    zc62,
    zc63,
    zc139,
    zc140,
    zc101,
    .inr (1, .inr (.inl 60)),
    zc141,
    zc102,
    zc68,
    zc69,
    zc70,
    zc71,
    zc72,
    zc73,
    zc74,
    zc142,
    zc77,
    zc143,
    zc144,
    zc79,
    zc145,
    zc146,
    zc147,
    zc148,
    zc84,
    zc149,
    zc86,
    zc87,
    zc126,
    zc127,
    zc128,
    zc22,
    .inr (1, .inr (.inl 6)),
    .inr (1, .inr (.inl 4)),
    .inr (6, .inr (.inr [none, none])),
    .inr (7, .inr (.inr [none, none]))], [(0, [4, 5, 6, 7], []), (0, [9, 10, 11, 12], [])]),
  [((85, [], [], [.inl (false, ((.ofNat 0), [(32, (.ofNat 1))]))], [zc21,
    zc150,
    .inr (4, .inr (.inr [some 3, some 8])),
    zc151,
    zc152,
    zc41,
    zc42,
    zc43,
    zc93,
    zc118,
    zc46,
    zc47,
    zc48,
    zc153,
    zc95,
    zc51,
    zc52,
    zc53,
    zc54,
    zc55,
    zc56,
    zc138,
    zc97,
    zc59,
    zc60,
    zc61,
    zc62,
    zc63,
    zc139,
    zc140,
    zc101,
    .inr (1, .inr (.inl 60)),
    zc141,
    zc102,
    zc68,
    zc69,
    zc70,
    zc71,
    zc72,
    zc73,
    zc74,
    zc142,
    zc77,
    zc143,
    zc144,
    zc79,
    zc145,
    zc146,
    zc147,
    zc148,
    zc84,
    zc149,
    zc86,
    zc87,
    zc126,
    zc127,
    zc128,
    zc22,
    .inr (1, .inr (.inl 6)),
    .inr (1, .inr (.inl 4)),
    .inr (6, .inr (.inr [none, none])),
    .inr (7, .inr (.inr [none, none]))], [(0, [4, 5, 6, 7], []), (0, [9, 10, 11, 12], [])]), 0, 0)])
noncomputable def c48_0_e : List Ct := []
noncomputable def c48_0_pts : List PE := []
set_option maxRecDepth 100000 in
theorem c48_0_k : enCtF c48_0 c48_0_e (c48_0_pts ++ []) (none) noH 3000 = true := by decide +kernel
set_option maxRecDepth 100000 in
theorem c48_0_v : ValidC PPk c48_0 := ct_ok fpk noH_ok (d := 0) (ext := []) (pts := c48_0_pts) (env := c48_0_e) rfl (fun _ h => (by cases h)) ext_nil (fun q h => (by cases h)) (enF c48_0_k) (fun _ h => (by cases h))

def zc221 : AC := .inl (7, [.inr (.inl (some 1)), .inl (false, ((.ofNat 0), [(0, (.ofNat 1))])), .inr (.inl (some 10)), .inr (.inl (some 14)), .inr (.inl (some 15)), .inl (false, ((.ofNat 0), [(1, (.ofNat 1))])), .inl (false, ((.ofNat 0), [(2, (.ofNat 1))])), .inl (false, ((.ofNat 0), [(3, (.ofNat 1))])), .inl (false, ((.ofNat 0), [(4, (.ofNat 1))])), .inl (false, ((.ofNat 0), [(5, (.ofNat 1))])), .inl (false, ((.ofNat 0), [(6, (.ofNat 1))])), .inl (false, ((.ofNat 0), [(7, (.ofNat 1))])), .inl (false, ((.ofNat 0), [(8, (.ofNat 1))])), .inl (false, ((.ofNat 0), [(9, (.ofNat 1))])), .inl (false, ((.ofNat 0), [(10, (.ofNat 1))])), .inl (false, ((.ofNat 0), [(11, (.ofNat 1))])), .inl (false, ((.ofNat 0), [(12, (.ofNat 1))]))])
def zc222 : AC := .inl (8, [.inr (.inl (some 3)), .inl (false, ((.ofNat 0), [(13, (.ofNat 1))])), .inl (false, ((.ofNat 0), [(14, (.ofNat 1))])), .inl (false, ((.ofNat 0), [(15, (.ofNat 1))])), .inl (false, ((.ofNat 0), [(16, (.ofNat 1))]))])
def zc223 : AC := .inl (8, [.inr (.inl (some 7)), .inl (false, ((.ofNat 0), [(23, (.ofNat 1))])), .inl (false, ((.ofNat 0), [(24, (.ofNat 1))])), .inl (false, ((.ofNat 0), [(25, (.ofNat 1))])), .inl (false, ((.ofNat 0), [(26, (.ofNat 1))]))])
def zc224 : AC := .inl (8, [.inr (.inl (some 9)), .inl (false, ((.ofNat 0), [(28, (.ofNat 1))])), .inl (false, ((.ofNat 0), [(29, (.ofNat 1))])), .inl (false, ((.ofNat 0), [(30, (.ofNat 1))])), .inl (false, ((.ofNat 0), [(31, (.ofNat 1))]))])
def zc225 : AC := .inl (9, [.inr (.inl (some 11)), .inr (.inl (some 12)), .inr (.inl (some 13)), .inl (false, ((.ofNat 0), [(33, (.ofNat 1))]))])
noncomputable def c51_0 : Ct := (51, 1, (39, [(0, (.negSucc 2147483647), (.ofNat 2147483647)), (1, (.negSucc 2147483647), (.ofNat 2147483647)), (2, (.negSucc 2147483647), (.ofNat 2147483647)), (3, (.negSucc 2147483647), (.ofNat 2147483647)), (4, (.negSucc 2147483647), (.ofNat 2147483647)), (5, (.negSucc 2147483647), (.ofNat 2147483647)), (6, (.ofNat 0), (.ofNat 3)), (7, (.negSucc 2147483647), (.ofNat 2147483647)), (8, (.negSucc 2147483647), (.ofNat 2147483647)), (9, (.negSucc 2147483647), (.ofNat 2147483647)), (10, (.negSucc 2147483647), (.ofNat 2147483647)), (11, (.ofNat 0), (.ofNat 1)), (12, (.negSucc 2147483647), (.ofNat 2147483647)), (13, (.negSucc 2147483647), (.ofNat 2147483647)), (14, (.negSucc 2147483647), (.ofNat 2147483647)), (15, (.negSucc 2147483647), (.ofNat 2147483647)), (16, (.negSucc 2147483647), (.ofNat 2147483647)), (18, (.negSucc 2147483647), (.ofNat 2147483647)), (19, (.negSucc 2147483647), (.ofNat 2147483647)), (20, (.negSucc 2147483647), (.ofNat 2147483647)), (21, (.negSucc 2147483647), (.ofNat 2147483647)), (23, (.negSucc 2147483647), (.ofNat 2147483647)), (24, (.negSucc 2147483647), (.ofNat 2147483647)), (25, (.negSucc 2147483647), (.ofNat 2147483647)), (26, (.negSucc 2147483647), (.ofNat 2147483647)), (28, (.negSucc 2147483647), (.ofNat 2147483647)), (29, (.negSucc 2147483647), (.ofNat 2147483647)), (30, (.negSucc 2147483647), (.ofNat 2147483647)), (31, (.negSucc 2147483647), (.ofNat 2147483647)), (33, (.negSucc 2147483647), (.ofNat 2147483647))], [], [.inr (.inl (some 0))], [zc221,
    zc26,
    zc222,
    zc95,
    zc28,
    zc55,
    zc223,
    zc60,
    zc224,
    zc31,
    zc225,
    zc33,
    zc34,
    zc101,
    zc66,
    zc102], []),
  [((41, [(39, (.ofNat 0), (.ofNat 1)), (40, (.negSucc 2147483647), (.ofNat 2147483647))], [], [], [.inl (7, [.inr (.inl (some 1)), .inl (false, ((.ofNat 0), [(0, (.ofNat 1))])), .inr (.inl (some 10)), .inr (.inl (some 14)), .inr (.inl (some 15)), .inl (false, ((.ofNat 0), [(1, (.ofNat 1))])), .inl (false, ((.ofNat 0), [(2, (.ofNat 1))])), .inl (false, ((.ofNat 0), [(3, (.ofNat 1))])), .inl (false, ((.ofNat 0), [(4, (.ofNat 1))])), .inl (false, ((.ofNat 0), [(5, (.ofNat 1))])), .inl (false, ((.ofNat 0), [(6, (.ofNat 1))])), .inl (false, ((.ofNat 0), [(7, (.ofNat 1))])), .inl (false, ((.ofNat 0), [(8, (.ofNat 1))])), .inl (false, ((.ofNat 0), [(9, (.ofNat 1))])), .inl (false, ((.ofNat 0), [(10, (.ofNat 1))])), .inl (false, ((.ofNat 0), [(39, (.ofNat 1))])), .inl (false, ((.ofNat 0), [(40, (.ofNat 1))]))]),
    zc26,
    zc222,
    zc95,
    zc28,
    zc55,
    zc223,
    zc60,
    zc224,
    zc31,
    zc225,
    zc33,
    zc34,
    zc101,
    zc66,
    zc102], []), 0, 0)])
noncomputable def c51_0_e : List Ct := []
noncomputable def c51_0_pts : List PE := []
set_option maxRecDepth 100000 in
theorem c51_0_k : enCtF c51_0 c51_0_e (c51_0_pts ++ []) (none) noH 3000 = true := by decide +kernel
set_option maxRecDepth 100000 in
theorem c51_0_v : ValidC PPk c51_0 := ct_ok fpk noH_ok (d := 0) (ext := []) (pts := c51_0_pts) (env := c51_0_e) rfl (fun _ h => (by cases h)) ext_nil (fun q h => (by cases h)) (enF c51_0_k) (fun _ h => (by cases h))

def zc226 : AC := .inl (7, [.inr (.inl (some 1)), .inl (false, ((.ofNat 0), [(3, (.ofNat 1))])), .inr (.inl (some 10)), .inr (.inl (some 14)), .inr (.inl (some 15)), .inl (false, ((.ofNat 0), [(4, (.ofNat 1))])), .inl (false, ((.ofNat 0), [(5, (.ofNat 1))])), .inl (false, ((.ofNat 0), [(6, (.ofNat 1))])), .inl (false, ((.ofNat 0), [(7, (.ofNat 1))])), .inl (false, ((.ofNat 0), [(8, (.ofNat 1))])), .inl (false, ((.ofNat 0), [(9, (.ofNat 1))])), .inl (false, ((.ofNat 0), [(10, (.ofNat 1))])), .inl (false, ((.ofNat 0), [(11, (.ofNat 1))])), .inl (false, ((.ofNat 0), [(12, (.ofNat 1))])), .inl (false, ((.ofNat 0), [(13, (.ofNat 1))])), .inl (false, ((.ofNat 0), [(14, (.ofNat 1))])), .inl (false, ((.ofNat 0), [(15, (.ofNat 1))]))])
def zc227 : AC := .inl (8, [.inr (.inl (some 3)), .inl (false, ((.ofNat 0), [(16, (.ofNat 1))])), .inl (false, ((.ofNat 0), [(17, (.ofNat 1))])), .inl (false, ((.ofNat 0), [(18, (.ofNat 1))])), .inl (false, ((.ofNat 0), [(19, (.ofNat 1))]))])
def zc228 : AC := .inl (8, [.inr (.inl (some 5)), .inl (false, ((.ofNat 0), [(20, (.ofNat 1))])), .inl (false, ((.ofNat 0), [(21, (.ofNat 1))])), .inl (false, ((.ofNat 0), [(22, (.ofNat 1))])), .inl (false, ((.ofNat 0), [(23, (.ofNat 1))]))])
def zc229 : AC := .inl (8, [.inr (.inl (some 7)), .inl (false, ((.ofNat 0), [(24, (.ofNat 1))])), .inl (false, ((.ofNat 0), [(25, (.ofNat 1))])), .inl (false, ((.ofNat 0), [(26, (.ofNat 1))])), .inl (false, ((.ofNat 0), [(27, (.ofNat 1))]))])
def zc230 : AC := .inl (9, [.inr (.inl (some 11)), .inr (.inl (some 12)), .inr (.inl (some 13)), .inl (false, ((.ofNat 0), [(32, (.ofNat 1))]))])
noncomputable def c54_0 : Ct := (54, 1, (38, [(0, (.ofNat 0), (.ofNat 3)), (1, (.ofNat 0), (.ofNat 11)), (2, (.negSucc 2147483647), (.ofNat 2147483647)), (3, (.negSucc 2147483647), (.ofNat 2147483647)), (4, (.negSucc 2147483647), (.ofNat 2147483647)), (5, (.negSucc 2147483647), (.ofNat 2147483647)), (6, (.negSucc 2147483647), (.ofNat 2147483647)), (7, (.negSucc 2147483647), (.ofNat 2147483647)), (8, (.negSucc 2147483647), (.ofNat 2147483647)), (9, (.ofNat 0), (.ofNat 3)), (10, (.negSucc 2147483647), (.ofNat 2147483647)), (11, (.negSucc 2147483647), (.ofNat 2147483647)), (12, (.negSucc 2147483647), (.ofNat 2147483647)), (13, (.negSucc 2147483647), (.ofNat 2147483647)), (14, (.ofNat 0), (.ofNat 1)), (15, (.negSucc 2147483647), (.ofNat 2147483647)), (16, (.negSucc 2147483647), (.ofNat 2147483647)), (17, (.negSucc 2147483647), (.ofNat 2147483647)), (18, (.negSucc 2147483647), (.ofNat 2147483647)), (19, (.negSucc 2147483647), (.ofNat 2147483647)), (20, (.negSucc 2147483647), (.ofNat 2147483647)), (21, (.negSucc 2147483647), (.ofNat 2147483647)), (22, (.negSucc 2147483647), (.ofNat 2147483647)), (23, (.negSucc 2147483647), (.ofNat 2147483647)), (24, (.negSucc 2147483647), (.ofNat 2147483647)), (25, (.negSucc 2147483647), (.ofNat 2147483647)), (26, (.negSucc 2147483647), (.ofNat 2147483647)), (27, (.negSucc 2147483647), (.ofNat 2147483647)), (28, (.negSucc 2147483647), (.ofNat 2147483647)), (29, (.negSucc 2147483647), (.ofNat 2147483647)), (30, (.negSucc 2147483647), (.ofNat 2147483647)), (31, (.negSucc 2147483647), (.ofNat 2147483647)), (32, (.negSucc 2147483647), (.ofNat 2147483647))], [], [.inr (.inl (some 0)), .inl (false, ((.ofNat 0), [(0, (.ofNat 1))])), .inl (false, ((.ofNat 0), [(1, (.ofNat 1))])), .inl (false, ((.ofNat 0), [(2, (.ofNat 1))]))], [zc226,
    zc26,
    zc227,
    zc24,
    zc228,
    zc24,
    zc229,
    zc24,
    zc224,
    zc24,
    zc230,
    zc32,
    zc33,
    zc34,
    zc101,
    zc66], []),
  [((38, [], [], [], [zc226,
    zc26,
    zc227,
    zc24,
    zc228,
    zc24,
    zc229,
    zc24,
    zc224,
    zc24,
    zc230,
    zc32,
    zc33,
    zc34,
    zc101,
    zc66], []), 0, 0)])
noncomputable def c54_0_e : List Ct := []
noncomputable def c54_0_pts : List PE := []
set_option maxRecDepth 100000 in
theorem c54_0_k : enCtF c54_0 c54_0_e (c54_0_pts ++ []) (none) noH 3000 = true := by decide +kernel
set_option maxRecDepth 100000 in
theorem c54_0_v : ValidC PPk c54_0 := ct_ok fpk noH_ok (d := 0) (ext := []) (pts := c54_0_pts) (env := c54_0_e) rfl (fun _ h => (by cases h)) ext_nil (fun q h => (by cases h)) (enF c54_0_k) (fun _ h => (by cases h))

def zc231 : AC := .inr (0, .inl [.inr (8, (.ofNat 0), (.ofNat 11))])
def zc232 : AC := .inl (7, [.inr (.inl (some 44)), .inl (false, ((.ofNat 0), [(43, (.ofNat 1))])), .inr (.inl (some 53)), .inr (.inl (some 57)), .inr (.inl (some 58)), .inl (false, ((.ofNat 0), [(44, (.ofNat 1))])), .inl (false, ((.ofNat 0), [(45, (.ofNat 1))])), .inl (false, ((.ofNat 0), [(46, (.ofNat 1))])), .inl (false, ((.ofNat 0), [(47, (.ofNat 1))])), .inl (false, ((.ofNat 0), [(48, (.ofNat 1))])), .inl (false, ((.ofNat 0), [(49, (.ofNat 1))])), .inl (false, ((.ofNat 0), [(50, (.ofNat 1))])), .inl (false, ((.ofNat 0), [(51, (.ofNat 1))])), .inl (false, ((.ofNat 0), [(52, (.ofNat 1))])), .inl (false, ((.ofNat 0), [(53, (.ofNat 1))])), .inl (false, ((.ofNat 0), [(54, (.ofNat 1))])), .inl (false, ((.ofNat 0), [(55, (.ofNat 1))]))])
def zc233 : AC := .inr (5, .inr (.inr [some 45, some 47, some 49, some 51]))
def zc234 : AC := .inl (8, [.inr (.inl (some 46)), .inl (false, ((.ofNat 0), [(56, (.ofNat 1))])), .inl (false, ((.ofNat 0), [(57, (.ofNat 1))])), .inl (false, ((.ofNat 0), [(58, (.ofNat 1))])), .inl (false, ((.ofNat 0), [(59, (.ofNat 1))]))])
def zc235 : AC := .inl (9, [.inr (.inl (some 54)), .inr (.inl (some 55)), .inr (.inl (some 56)), .inl (false, ((.ofNat 0), [(72, (.ofNat 1))]))])
noncomputable def c53_0 : Ct := (53, 2, (78, [(0, (.ofNat 0), (.ofNat 7)), (1, (.ofNat 1), (.ofNat 4)), (2, (.negSucc 2147483647), (.ofNat 2147483647)), (3, (.negSucc 2147483647), (.ofNat 2147483647)), (4, (.ofNat 1), (.ofNat 1000)), (5, (.ofNat 0), (.ofNat 50)), (6, (.ofNat 0), (.ofNat 10)), (7, (.ofNat 0), (.ofNat 60)), (12, (.ofNat 0), (.ofNat 60)), (17, (.ofNat 0), (.ofNat 8)), (25, (.ofNat 0), (.ofNat 6)), (32, (.ofNat 0), (.ofNat 60)), (33, (.negSucc 2147483647), (.ofNat 2147483647)), (34, (.ofNat 0), (.ofNat 60)), (35, (.ofNat 0), (.ofNat 60)), (38, (.ofNat 0), (.ofNat 8)), (43, (.negSucc 2147483647), (.ofNat 2147483647)), (44, (.negSucc 2147483647), (.ofNat 2147483647)), (45, (.negSucc 2147483647), (.ofNat 2147483647)), (46, (.negSucc 2147483647), (.ofNat 2147483647)), (47, (.negSucc 2147483647), (.ofNat 2147483647)), (48, (.negSucc 2147483647), (.ofNat 2147483647)), (49, (.ofNat 0), (.ofNat 3)), (50, (.negSucc 2147483647), (.ofNat 2147483647)), (51, (.negSucc 2147483647), (.ofNat 2147483647)), (52, (.negSucc 2147483647), (.ofNat 2147483647)), (53, (.negSucc 2147483647), (.ofNat 2147483647)), (54, (.ofNat 0), (.ofNat 1)), (55, (.negSucc 2147483647), (.ofNat 2147483647)), (56, (.negSucc 2147483647), (.ofNat 2147483647)), (57, (.negSucc 2147483647), (.ofNat 2147483647)), (58, (.negSucc 2147483647), (.ofNat 2147483647)), (59, (.negSucc 2147483647), (.ofNat 2147483647)), (60, (.negSucc 2147483647), (.ofNat 2147483647)), (61, (.negSucc 2147483647), (.ofNat 2147483647)), (62, (.negSucc 2147483647), (.ofNat 2147483647)), (63, (.negSucc 2147483647), (.ofNat 2147483647)), (64, (.negSucc 2147483647), (.ofNat 2147483647)), (65, (.negSucc 2147483647), (.ofNat 2147483647)), (66, (.negSucc 2147483647), (.ofNat 2147483647)), (67, (.negSucc 2147483647), (.ofNat 2147483647)), (68, (.negSucc 2147483647), (.ofNat 2147483647)), (69, (.negSucc 2147483647), (.ofNat 2147483647)), (70, (.negSucc 2147483647), (.ofNat 2147483647)), (71, (.negSucc 2147483647), (.ofNat 2147483647)), (72, (.negSucc 2147483647), (.ofNat 2147483647))], [], [.inr (.inl (some 0)), .inr (.inl (some 43)), .inl (false, ((.ofNat 0), [(0, (.ofNat 1))]))], [zc20,
    zc39,
    .inr (4, .inr (.inr [some 3, some 8])),
    zc40,
    zc41,
    zc42,
    zc43,
    zc44,
    zc45,
    zc46,
    zc47,
    zc48,
    zc49,
    zc50,
    zc51,
    zc52,
    zc53,
    zc54,
    zc55,
    zc56,
    zc57,
    zc58,
    zc59,
    zc60,
    zc61,
    zc62,
    zc63,
    zc30,
    zc64,
    zc65,
    zc66,
    .inr (1, .inr (.inl 60)),
    zc67,
    zc154,
    zc68,
    zc137,
    zc231,
    zc154,
    zc69,
    zc70,
    zc71,
    .inr (1, .inr (.inl 6)),
    .inr (1, .inr (.inl 4)),
    zc232,
    zc233,
    zc234,
    zc24,
    .inl (8, [.inr (.inl (some 48)), .inl (false, ((.ofNat 0), [(60, (.ofNat 1))])), .inl (false, ((.ofNat 0), [(61, (.ofNat 1))])), .inl (false, ((.ofNat 0), [(62, (.ofNat 1))])), .inl (false, ((.ofNat 0), [(63, (.ofNat 1))]))]),
    zc24,
    .inl (8, [.inr (.inl (some 50)), .inl (false, ((.ofNat 0), [(64, (.ofNat 1))])), .inl (false, ((.ofNat 0), [(65, (.ofNat 1))])), .inl (false, ((.ofNat 0), [(66, (.ofNat 1))])), .inl (false, ((.ofNat 0), [(67, (.ofNat 1))]))]),
    zc24,
    .inl (8, [.inr (.inl (some 52)), .inl (false, ((.ofNat 0), [(68, (.ofNat 1))])), .inl (false, ((.ofNat 0), [(69, (.ofNat 1))])), .inl (false, ((.ofNat 0), [(70, (.ofNat 1))])), .inl (false, ((.ofNat 0), [(71, (.ofNat 1))]))]),
    zc24,
    zc235,
    zc147,
    zc111,
    zc170,
    zc113,
    zc83], [(0, [4, 5, 6, 7], []), (0, [9, 10, 11, 12], [])]),
  [((87, [(78, (.negSucc 2147483647), (.ofNat 2147483647)), (79, (.negSucc 2147483647), (.ofNat 2147483647)), (80, (.negSucc 2147483647), (.ofNat 2147483647)), (81, (.negSucc 2147483647), (.ofNat 2147483647)), (82, (.negSucc 2147483647), (.ofNat 2147483647)), (83, (.negSucc 2147483647), (.ofNat 2147483647)), (84, (.negSucc 2147483647), (.ofNat 2147483647)), (85, (.negSucc 2147483647), (.ofNat 2147483647)), (86, (.negSucc 2147483647), (.ofNat 2147483647))], [], [], [zc20,
    zc39,
    .inr (4, .inr (.inr [some 3, some 8])),
    zc40,
    zc41,
    zc42,
    zc43,
    zc44,
    zc45,
    zc46,
    zc47,
    zc48,
    zc49,
    zc50,
    zc51,
    zc52,
    zc53,
    zc54,
    zc55,
    zc56,
    zc57,
    zc58,
    zc59,
    zc60,
    zc61,
    zc62,
    zc63,
    zc30,
    zc64,
    zc65,
    zc66,
    .inr (1, .inr (.inl 60)),
    zc67,
    zc154,
    zc68,
    zc137,
    zc231,
    zc154,
    zc69,
    zc70,
    zc71,
    .inr (1, .inr (.inl 6)),
    .inr (1, .inr (.inl 4)),
    .inl (7, [.inr (.inl (some 44)), .inl (false, ((.ofNat 0), [(43, (.ofNat 1))])), .inr (.inl (some 53)), .inr (.inl (some 57)), .inr (.inl (some 58)), .inl (false, ((.ofNat 0), [(78, (.ofNat 1))])), .inl (false, ((.ofNat 0), [(45, (.ofNat 1))])), .inl (false, ((.ofNat 0), [(46, (.ofNat 1))])), .inl (false, ((.ofNat 0), [(47, (.ofNat 1))])), .inl (false, ((.ofNat 0), [(48, (.ofNat 1))])), .inl (false, ((.ofNat 0), [(49, (.ofNat 1))])), .inl (false, ((.ofNat 0), [(50, (.ofNat 1))])), .inl (false, ((.ofNat 0), [(51, (.ofNat 1))])), .inl (false, ((.ofNat 0), [(52, (.ofNat 1))])), .inl (false, ((.ofNat 0), [(53, (.ofNat 1))])), .inl (false, ((.ofNat 0), [(54, (.ofNat 1))])), .inl (false, ((.ofNat 0), [(55, (.ofNat 1))]))]),
    zc233,
    .inl (8, [.inr (.inl (some 46)), .inl (false, ((.ofNat 0), [(56, (.ofNat 1))])), .inl (false, ((.ofNat 0), [(57, (.ofNat 1))])), .inl (false, ((.ofNat 0), [(79, (.ofNat 1))])), .inl (false, ((.ofNat 0), [(80, (.ofNat 1))]))]),
    zc24,
    .inl (8, [.inr (.inl (some 48)), .inl (false, ((.ofNat 0), [(60, (.ofNat 1))])), .inl (false, ((.ofNat 0), [(61, (.ofNat 1))])), .inl (false, ((.ofNat 0), [(81, (.ofNat 1))])), .inl (false, ((.ofNat 0), [(82, (.ofNat 1))]))]),
    zc24,
    .inl (8, [.inr (.inl (some 50)), .inl (false, ((.ofNat 0), [(64, (.ofNat 1))])), .inl (false, ((.ofNat 0), [(65, (.ofNat 1))])), .inl (false, ((.ofNat 0), [(83, (.ofNat 1))])), .inl (false, ((.ofNat 0), [(84, (.ofNat 1))]))]),
    zc24,
    .inl (8, [.inr (.inl (some 52)), .inl (false, ((.ofNat 0), [(68, (.ofNat 1))])), .inl (false, ((.ofNat 0), [(69, (.ofNat 1))])), .inl (false, ((.ofNat 0), [(85, (.ofNat 1))])), .inl (false, ((.ofNat 0), [(86, (.ofNat 1))]))]),
    zc24,
    zc235,
    zc147,
    zc111,
    zc170,
    zc113,
    zc83], [(0, [4, 5, 6, 7], []), (0, [9, 10, 11, 12], [])]), 0, 0)])
noncomputable def c53_0_e : List Ct := [c54_0]
noncomputable def c53_0_pts : List PE := []
set_option maxRecDepth 100000 in
theorem c53_0_k : enCtF c53_0 c53_0_e (c53_0_pts ++ []) (none) noH 3000 = true := by decide +kernel
set_option maxRecDepth 100000 in
theorem c53_0_v : ValidC PPk c53_0 := ct_ok fpk noH_ok (d := 1) (ext := []) (pts := c53_0_pts) (env := c53_0_e) rfl (List.forall_mem_cons.mpr ⟨⟨c54_0_v, Nat.le_of_ble_eq_true rfl⟩, fun _ h => (by cases h)⟩) ext_nil (fun q h => (by cases h)) (enF c53_0_k) (fun _ h => (by cases h))

def zc236 : AC := .inl (9, [.inr (.inl (some 54)), .inr (.inl (some 55)), .inr (.inl (some 56)), .inl (false, ((.ofNat 0), [(70, (.ofNat 1))]))])
noncomputable def c52_0 : Ct := (52, 3, (76, [(0, (.ofNat 1), (.ofNat 4)), (1, (.negSucc 2147483647), (.ofNat 2147483647)), (2, (.negSucc 2147483647), (.ofNat 2147483647)), (3, (.ofNat 1), (.ofNat 1000)), (4, (.ofNat 0), (.ofNat 50)), (5, (.ofNat 0), (.ofNat 10)), (6, (.ofNat 0), (.ofNat 60)), (11, (.ofNat 0), (.ofNat 60)), (16, (.ofNat 0), (.ofNat 8)), (24, (.ofNat 0), (.ofNat 6)), (31, (.ofNat 0), (.ofNat 60)), (32, (.negSucc 2147483647), (.ofNat 2147483647)), (33, (.ofNat 0), (.ofNat 60)), (34, (.ofNat 0), (.ofNat 60)), (37, (.ofNat 0), (.ofNat 8)), (41, (.negSucc 2147483647), (.ofNat 2147483647)), (42, (.negSucc 2147483647), (.ofNat 2147483647)), (43, (.negSucc 2147483647), (.ofNat 2147483647)), (44, (.negSucc 2147483647), (.ofNat 2147483647)), (45, (.negSucc 2147483647), (.ofNat 2147483647)), (46, (.negSucc 2147483647), (.ofNat 2147483647)), (47, (.ofNat 0), (.ofNat 3)), (48, (.negSucc 2147483647), (.ofNat 2147483647)), (49, (.negSucc 2147483647), (.ofNat 2147483647)), (50, (.negSucc 2147483647), (.ofNat 2147483647)), (51, (.negSucc 2147483647), (.ofNat 2147483647)), (52, (.ofNat 0), (.ofNat 1)), (53, (.negSucc 2147483647), (.ofNat 2147483647)), (54, (.negSucc 2147483647), (.ofNat 2147483647)), (55, (.negSucc 2147483647), (.ofNat 2147483647)), (56, (.negSucc 2147483647), (.ofNat 2147483647)), (57, (.negSucc 2147483647), (.ofNat 2147483647)), (58, (.negSucc 2147483647), (.ofNat 2147483647)), (59, (.negSucc 2147483647), (.ofNat 2147483647)), (60, (.negSucc 2147483647), (.ofNat 2147483647)), (61, (.negSucc 2147483647), (.ofNat 2147483647)), (62, (.negSucc 2147483647), (.ofNat 2147483647)), (63, (.negSucc 2147483647), (.ofNat 2147483647)), (64, (.negSucc 2147483647), (.ofNat 2147483647)), (65, (.negSucc 2147483647), (.ofNat 2147483647)), (66, (.negSucc 2147483647), (.ofNat 2147483647)), (67, (.negSucc 2147483647), (.ofNat 2147483647)), (68, (.negSucc 2147483647), (.ofNat 2147483647)), (69, (.negSucc 2147483647), (.ofNat 2147483647)), (70, (.negSucc 2147483647), (.ofNat 2147483647))], [], [.inr (.inl (some 0)), .inr (.inl (some 43))], [zc20,
    zc150,
    .inr (4, .inr (.inr [some 3, some 8])),
    zc151,
    zc152,
    zc41,
    zc42,
    zc43,
    zc93,
    zc118,
    zc46,
    zc47,
    zc48,
    zc153,
    zc95,
    zc51,
    zc52,
    zc53,
    zc54,
    zc55,
    zc56,
    zc138,
    zc97,
    zc59,
    zc60,
    zc61,
    zc62,
    zc63,
    zc139,
    zc140,
    zc101,
    .inr (1, .inr (.inl 60)),
    zc141,
    zc154,
    zc154,
    zc137,
    zc231,
    zc154,
    zc102,
    zc68,
    zc69,
    .inr (1, .inr (.inl 6)),
    .inr (1, .inr (.inl 4)),
    .inl (7, [.inr (.inl (some 44)), .inl (false, ((.ofNat 0), [(41, (.ofNat 1))])), .inr (.inl (some 53)), .inr (.inl (some 57)), .inr (.inl (some 58)), .inl (false, ((.ofNat 0), [(42, (.ofNat 1))])), .inl (false, ((.ofNat 0), [(43, (.ofNat 1))])), .inl (false, ((.ofNat 0), [(44, (.ofNat 1))])), .inl (false, ((.ofNat 0), [(45, (.ofNat 1))])), .inl (false, ((.ofNat 0), [(46, (.ofNat 1))])), .inl (false, ((.ofNat 0), [(47, (.ofNat 1))])), .inl (false, ((.ofNat 0), [(48, (.ofNat 1))])), .inl (false, ((.ofNat 0), [(49, (.ofNat 1))])), .inl (false, ((.ofNat 0), [(50, (.ofNat 1))])), .inl (false, ((.ofNat 0), [(51, (.ofNat 1))])), .inl (false, ((.ofNat 0), [(52, (.ofNat 1))])), .inl (false, ((.ofNat 0), [(53, (.ofNat 1))]))]),
    zc233,
    .inl (8, [.inr (.inl (some 46)), .inl (false, ((.ofNat 0), [(54, (.ofNat 1))])), .inl (false, ((.ofNat 0), [(55, (.ofNat 1))])), .inl (false, ((.ofNat 0), [(56, (.ofNat 1))])), .inl (false, ((.ofNat 0), [(57, (.ofNat 1))]))]),
    zc24,
    .inl (8, [.inr (.inl (some 48)), .inl (false, ((.ofNat 0), [(58, (.ofNat 1))])), .inl (false, ((.ofNat 0), [(59, (.ofNat 1))])), .inl (false, ((.ofNat 0), [(60, (.ofNat 1))])), .inl (false, ((.ofNat 0), [(61, (.ofNat 1))]))]),
    zc24,
    .inl (8, [.inr (.inl (some 50)), .inl (false, ((.ofNat 0), [(62, (.ofNat 1))])), .inl (false, ((.ofNat 0), [(63, (.ofNat 1))])), .inl (false, ((.ofNat 0), [(64, (.ofNat 1))])), .inl (false, ((.ofNat 0), [(65, (.ofNat 1))]))]),
    zc24,
    .inl (8, [.inr (.inl (some 52)), .inl (false, ((.ofNat 0), [(66, (.ofNat 1))])), .inl (false, ((.ofNat 0), [(67, (.ofNat 1))])), .inl (false, ((.ofNat 0), [(68, (.ofNat 1))])), .inl (false, ((.ofNat 0), [(69, (.ofNat 1))]))]),
    zc24,
    zc236,
    zc185,
    zc211,
    zc147,
    zc111,
    zc170], [(0, [4, 5, 6, 7], []), (0, [9, 10, 11, 12], [])]),
  [((85, [(76, (.negSucc 2147483647), (.ofNat 2147483647)), (77, (.negSucc 2147483647), (.ofNat 2147483647)), (78, (.negSucc 2147483647), (.ofNat 2147483647)), (79, (.negSucc 2147483647), (.ofNat 2147483647)), (80, (.negSucc 2147483647), (.ofNat 2147483647)), (81, (.negSucc 2147483647), (.ofNat 2147483647)), (82, (.negSucc 2147483647), (.ofNat 2147483647)), (83, (.negSucc 2147483647), (.ofNat 2147483647)), (84, (.negSucc 2147483647), (.ofNat 2147483647))], [], [], [zc20,
    zc150,
    .inr (4, .inr (.inr [some 3, some 8])),
    zc151,
    zc152,
    zc41,
    zc42,
    zc43,
    zc93,
    zc118,
    zc46,
    zc47,
    zc48,
    zc153,
    zc95,
    zc51,
    zc52,
    zc53,
    zc54,
    zc55,
    zc56,
    zc138,
    zc97,
    zc59,
    zc60,
    zc61,
    zc62,
    zc63,
    zc139,
    zc140,
    zc101,
    .inr (1, .inr (.inl 60)),
    zc141,
    zc154,
    zc154,
    zc137,
    zc231,
    zc154,
    zc102,
    zc68,
    zc69,
    .inr (1, .inr (.inl 6)),
    .inr (1, .inr (.inl 4)),
    .inl (7, [.inr (.inl (some 44)), .inl (false, ((.ofNat 0), [(41, (.ofNat 1))])), .inr (.inl (some 53)), .inr (.inl (some 57)), .inr (.inl (some 58)), .inl (false, ((.ofNat 0), [(76, (.ofNat 1))])), .inl (false, ((.ofNat 0), [(43, (.ofNat 1))])), .inl (false, ((.ofNat 0), [(44, (.ofNat 1))])), .inl (false, ((.ofNat 0), [(45, (.ofNat 1))])), .inl (false, ((.ofNat 0), [(46, (.ofNat 1))])), .inl (false, ((.ofNat 0), [(47, (.ofNat 1))])), .inl (false, ((.ofNat 0), [(48, (.ofNat 1))])), .inl (false, ((.ofNat 0), [(49, (.ofNat 1))])), .inl (false, ((.ofNat 0), [(50, (.ofNat 1))])), .inl (false, ((.ofNat 0), [(51, (.ofNat 1))])), .inl (false, ((.ofNat 0), [(52, (.ofNat 1))])), .inl (false, ((.ofNat 0), [(53, (.ofNat 1))]))]),
    zc233,
    .inl (8, [.inr (.inl (some 46)), .inl (false, ((.ofNat 0), [(54, (.ofNat 1))])), .inl (false, ((.ofNat 0), [(55, (.ofNat 1))])), .inl (false, ((.ofNat 0), [(77, (.ofNat 1))])), .inl (false, ((.ofNat 0), [(78, (.ofNat 1))]))]),
    zc24,
    .inl (8, [.inr (.inl (some 48)), .inl (false, ((.ofNat 0), [(58, (.ofNat 1))])), .inl (false, ((.ofNat 0), [(59, (.ofNat 1))])), .inl (false, ((.ofNat 0), [(79, (.ofNat 1))])), .inl (false, ((.ofNat 0), [(80, (.ofNat 1))]))]),
    zc24,
    .inl (8, [.inr (.inl (some 50)), .inl (false, ((.ofNat 0), [(62, (.ofNat 1))])), .inl (false, ((.ofNat 0), [(63, (.ofNat 1))])), .inl (false, ((.ofNat 0), [(81, (.ofNat 1))])), .inl (false, ((.ofNat 0), [(82, (.ofNat 1))]))]),
    zc24,
    .inl (8, [.inr (.inl (some 52)), .inl (false, ((.ofNat 0), [(66, (.ofNat 1))])), .inl (false, ((.ofNat 0), [(67, (.ofNat 1))])), .inl (false, ((.ofNat 0), [(83, (.ofNat 1))])), .inl (false, ((.ofNat 0), [(84, (.ofNat 1))]))]),
    zc24,
    zc236,
    zc185,
    zc211,
    zc147,
    zc111,
    zc170], [(0, [4, 5, 6, 7], []), (0, [9, 10, 11, 12], [])]), 0, 0)])
noncomputable def c52_0_e : List Ct := [c53_0]
noncomputable def c52_0_p0 : PE := (2, [0, 1, 2], (86, [(0, (.ofNat 1), (.ofNat 4)), (1, (.negSucc 2147483647), (.ofNat 2147483647)), (2, (.negSucc 2147483647), (.ofNat 2147483647)), (3, (.ofNat 1), (.ofNat 1000)), (4, (.ofNat 0), (.ofNat 50)), (5, (.ofNat 0), (.ofNat 10)), (6, (.ofNat 0), (.ofNat 60)), (11, (.ofNat 0), (.ofNat 60)), (16, (.ofNat 0), (.ofNat 8)), (24, (.ofNat 0), (.ofNat 6)), (31, (.ofNat 0), (.ofNat 60)), (32, (.negSucc 2147483647), (.ofNat 2147483647)), (33, (.ofNat 0), (.ofNat 60)), (34, (.ofNat 0), (.ofNat 60)), (37, (.ofNat 0), (.ofNat 8)), (41, (.negSucc 2147483647), (.ofNat 2147483647)), (42, (.negSucc 2147483647), (.ofNat 2147483647)), (43, (.negSucc 2147483647), (.ofNat 2147483647)), (44, (.negSucc 2147483647), (.ofNat 2147483647)), (45, (.negSucc 2147483647), (.ofNat 2147483647)), (46, (.negSucc 2147483647), (.ofNat 2147483647)), (47, (.ofNat 0), (.ofNat 3)), (48, (.negSucc 2147483647), (.ofNat 2147483647)), (49, (.negSucc 2147483647), (.ofNat 2147483647)), (50, (.negSucc 2147483647), (.ofNat 2147483647)), (51, (.negSucc 2147483647), (.ofNat 2147483647)), (52, (.ofNat 0), (.ofNat 1)), (53, (.negSucc 2147483647), (.ofNat 2147483647)), (54, (.negSucc 2147483647), (.ofNat 2147483647)), (55, (.negSucc 2147483647), (.ofNat 2147483647)), (56, (.negSucc 2147483647), (.ofNat 2147483647)), (57, (.negSucc 2147483647), (.ofNat 2147483647)), (58, (.negSucc 2147483647), (.ofNat 2147483647)), (59, (.negSucc 2147483647), (.ofNat 2147483647)), (60, (.negSucc 2147483647), (.ofNat 2147483647)), (61, (.negSucc 2147483647), (.ofNat 2147483647)), (62, (.negSucc 2147483647), (.ofNat 2147483647)), (63, (.negSucc 2147483647), (.ofNat 2147483647)), (64, (.negSucc 2147483647), (.ofNat 2147483647)), (65, (.negSucc 2147483647), (.ofNat 2147483647)), (66, (.negSucc 2147483647), (.ofNat 2147483647)), (67, (.negSucc 2147483647), (.ofNat 2147483647)), (68, (.negSucc 2147483647), (.ofNat 2147483647)), (69, (.negSucc 2147483647), (.ofNat 2147483647)), (70, (.negSucc 2147483647), (.ofNat 2147483647)), (76, (.ofNat 0), (.ofNat 8)), (77, (.negSucc 2147483647), (.ofNat 2147483647)), (78, (.negSucc 2147483647), (.ofNat 2147483647)), (79, (.negSucc 2147483647), (.ofNat 2147483647)), (80, (.negSucc 2147483647), (.ofNat 2147483647)), (81, (.negSucc 2147483647), (.ofNat 2147483647)), (82, (.negSucc 2147483647), (.ofNat 2147483647)), (83, (.negSucc 2147483647), (.ofNat 2147483647)), (84, (.negSucc 2147483647), (.ofNat 2147483647)), (85, (.negSucc 2147483647), (.ofNat 2147483647))], [], [.inr (.inl (some 0)), .inr (.inl (some 43)), .inl (false, ((.ofNat 0), [(76, (.ofNat 1))]))], [zc20,
    zc150,
    .inr (4, .inr (.inr [some 3, some 8])),
    zc151,
    zc152,
    zc41,
    zc42,
    zc43,
    zc93,
    zc118,
    zc46,
    zc47,
    zc48,
    zc153,
    zc95,
    zc51,
    zc52,
    zc53,
    zc54,
    zc55,
    zc56,
    zc138,
    zc97,
    zc59,
    zc60,
    zc61,
    zc62,
    zc63,
    zc139,
    zc140,
    zc101,
    .inr (1, .inr (.inl 60)),
    zc141,
    zc154,
    zc154,
    zc137,
    zc231,
    zc154,
    zc102,
    zc68,
    zc69,
    .inr (1, .inr (.inl 6)),
    .inr (1, .inr (.inl 4)),
    .inl (7, [.inr (.inl (some 44)), .inl (false, ((.ofNat 0), [(41, (.ofNat 1))])), .inr (.inl (some 53)), .inr (.inl (some 57)), .inr (.inl (some 58)), .inl (false, ((.ofNat 0), [(77, (.ofNat 1))])), .inl (false, ((.ofNat 0), [(43, (.ofNat 1))])), .inl (false, ((.ofNat 0), [(44, (.ofNat 1))])), .inl (false, ((.ofNat 0), [(45, (.ofNat 1))])), .inl (false, ((.ofNat 0), [(46, (.ofNat 1))])), .inl (false, ((.ofNat 0), [(47, (.ofNat 1))])), .inl (false, ((.ofNat 0), [(48, (.ofNat 1))])), .inl (false, ((.ofNat 0), [(49, (.ofNat 1))])), .inl (false, ((.ofNat 0), [(50, (.ofNat 1))])), .inl (false, ((.ofNat 0), [(51, (.ofNat 1))])), .inl (false, ((.ofNat 0), [(52, (.ofNat 1))])), .inl (false, ((.ofNat 0), [(53, (.ofNat 1))]))]),
    zc233,
    .inl (8, [.inr (.inl (some 46)), .inl (false, ((.ofNat 0), [(54, (.ofNat 1))])), .inl (false, ((.ofNat 0), [(55, (.ofNat 1))])), .inl (false, ((.ofNat 0), [(78, (.ofNat 1))])), .inl (false, ((.ofNat 0), [(79, (.ofNat 1))]))]),
    zc24,
    .inl (8, [.inr (.inl (some 48)), .inl (false, ((.ofNat 0), [(58, (.ofNat 1))])), .inl (false, ((.ofNat 0), [(59, (.ofNat 1))])), .inl (false, ((.ofNat 0), [(80, (.ofNat 1))])), .inl (false, ((.ofNat 0), [(81, (.ofNat 1))]))]),
    zc24,
    .inl (8, [.inr (.inl (some 50)), .inl (false, ((.ofNat 0), [(62, (.ofNat 1))])), .inl (false, ((.ofNat 0), [(63, (.ofNat 1))])), .inl (false, ((.ofNat 0), [(82, (.ofNat 1))])), .inl (false, ((.ofNat 0), [(83, (.ofNat 1))]))]),
    zc24,
    .inl (8, [.inr (.inl (some 52)), .inl (false, ((.ofNat 0), [(66, (.ofNat 1))])), .inl (false, ((.ofNat 0), [(67, (.ofNat 1))])), .inl (false, ((.ofNat 0), [(84, (.ofNat 1))])), .inl (false, ((.ofNat 0), [(85, (.ofNat 1))]))]),
    zc24,
    zc236,
    zc185,
    zc211,
    zc147,
    zc111,
    zc170], [(0, [4, 5, 6, 7], []), (0, [9, 10, 11, 12], [])]), symsL 76 0, some ((.ofNat 17), [(76, (.negSucc 0))]), 0, 0)
noncomputable def c52_0_pts : List PE := [c52_0_p0]
set_option maxRecDepth 100000 in
theorem c52_0_k : enCtF c52_0 c52_0_e (c52_0_pts ++ []) (none) (noF, noM, 4, 0, 76) 3000 = true := by decide +kernel
set_option maxRecDepth 100000 in
theorem c52_0_k0 : ptCtF c52_0 c52_0_e (c52_0_pts ++ []) (noF, noM, 4, 0, 76) 3000 c52_0_p0 = true := by decide +kernel
set_option maxRecDepth 100000 in
theorem c52_0_v : ValidC PPk c52_0 := ct_ok fpk ⟨noF_ok, noM_ok⟩ (d := 2) (ext := []) (pts := c52_0_pts) (env := c52_0_e) rfl (List.forall_mem_cons.mpr ⟨⟨c53_0_v, Nat.le_of_ble_eq_true rfl⟩, fun _ h => (by cases h)⟩) ext_nil (fun q h => (by cases h)) (enF c52_0_k) (List.forall_mem_cons.mpr ⟨ptF c52_0_k0, fun _ h => (by cases h)⟩)

def zc237 : AC := .inl (4, [.inl (false, ((.ofNat 0), [(1, (.ofNat 1))])), .inr (.inl (some 1)), .inr (.inl (some 2)), .inr (.inl (some 3)), .inr (.inl (some 4))])
def zc238 : AC := .inr (100, .inl [.inl ((.ofNat 0), [(2, (.ofNat 1))])])
def zc239 : AC := .inl (7, [.inr (.inl (some 6)), .inl (false, ((.ofNat 0), [(3, (.ofNat 1))])), .inr (.inl (some 15)), .inr (.inl (some 19)), .inr (.inl (some 20)), .inl (false, ((.ofNat 0), [(4, (.ofNat 1))])), .inl (false, ((.ofNat 0), [(5, (.ofNat 1))])), .inl (false, ((.ofNat 0), [(6, (.ofNat 1))])), .inl (false, ((.ofNat 0), [(7, (.ofNat 1))])), .inl (false, ((.ofNat 0), [(8, (.ofNat 1))])), .inl (false, ((.ofNat 0), [(9, (.ofNat 1))])), .inl (false, ((.ofNat 0), [(10, (.ofNat 1))])), .inl (false, ((.ofNat 0), [(11, (.ofNat 1))])), .inl (false, ((.ofNat 0), [(12, (.ofNat 1))])), .inl (false, ((.ofNat 0), [(13, (.ofNat 1))])), .inl (false, ((.ofNat 0), [(14, (.ofNat 1))])), .inl (false, ((.ofNat 0), [(15, (.ofNat 1))]))])
def zc240 : AC := .inr (5, .inr (.inr [some 7, some 9, some 11, some 13]))
def zc241 : AC := .inl (8, [.inr (.inl (some 8)), .inl (false, ((.ofNat 0), [(16, (.ofNat 1))])), .inl (false, ((.ofNat 0), [(17, (.ofNat 1))])), .inl (false, ((.ofNat 0), [(18, (.ofNat 1))])), .inl (false, ((.ofNat 0), [(19, (.ofNat 1))]))])
def zc242 : AC := .inl (8, [.inr (.inl (some 10)), .inl (false, ((.ofNat 0), [(21, (.ofNat 1))])), .inl (false, ((.ofNat 0), [(22, (.ofNat 1))])), .inl (false, ((.ofNat 0), [(23, (.ofNat 1))])), .inl (false, ((.ofNat 0), [(24, (.ofNat 1))]))])
def zc243 : AC := .inl (8, [.inr (.inl (some 12)), .inl (false, ((.ofNat 0), [(26, (.ofNat 1))])), .inl (false, ((.ofNat 0), [(27, (.ofNat 1))])), .inl (false, ((.ofNat 0), [(28, (.ofNat 1))])), .inl (false, ((.ofNat 0), [(29, (.ofNat 1))]))])
def zc244 : AC := .inl (8, [.inr (.inl (some 14)), .inl (false, ((.ofNat 0), [(31, (.ofNat 1))])), .inl (false, ((.ofNat 0), [(32, (.ofNat 1))])), .inl (false, ((.ofNat 0), [(33, (.ofNat 1))])), .inl (false, ((.ofNat 0), [(34, (.ofNat 1))]))])
def zc245 : AC := .inl (9, [.inr (.inl (some 16)), .inr (.inl (some 17)), .inr (.inl (some 18)), .inl (false, ((.ofNat 0), [(36, (.ofNat 1))]))])
noncomputable def c56_0 : Ct := (56, 1, (41, [(0, (.ofNat 0), (.ofNat 5)), (1, (.ofNat 0), (.ofNat 6)), (3, (.negSucc 2147483647), (.ofNat 2147483647)), (4, (.negSucc 2147483647), (.ofNat 2147483647)), (5, (.negSucc 2147483647), (.ofNat 2147483647)), (6, (.negSucc 2147483647), (.ofNat 2147483647)), (7, (.negSucc 2147483647), (.ofNat 2147483647)), (8, (.negSucc 2147483647), (.ofNat 2147483647)), (9, (.ofNat 0), (.ofNat 3)), (10, (.negSucc 2147483647), (.ofNat 2147483647)), (11, (.negSucc 2147483647), (.ofNat 2147483647)), (12, (.negSucc 2147483647), (.ofNat 2147483647)), (13, (.negSucc 2147483647), (.ofNat 2147483647)), (14, (.ofNat 0), (.ofNat 1)), (15, (.negSucc 2147483647), (.ofNat 2147483647)), (16, (.negSucc 2147483647), (.ofNat 2147483647)), (17, (.negSucc 2147483647), (.ofNat 2147483647)), (18, (.negSucc 2147483647), (.ofNat 2147483647)), (19, (.negSucc 2147483647), (.ofNat 2147483647)), (21, (.negSucc 2147483647), (.ofNat 2147483647)), (22, (.negSucc 2147483647), (.ofNat 2147483647)), (23, (.negSucc 2147483647), (.ofNat 2147483647)), (24, (.negSucc 2147483647), (.ofNat 2147483647)), (26, (.negSucc 2147483647), (.ofNat 2147483647)), (27, (.negSucc 2147483647), (.ofNat 2147483647)), (28, (.negSucc 2147483647), (.ofNat 2147483647)), (29, (.negSucc 2147483647), (.ofNat 2147483647)), (31, (.negSucc 2147483647), (.ofNat 2147483647)), (32, (.negSucc 2147483647), (.ofNat 2147483647)), (33, (.negSucc 2147483647), (.ofNat 2147483647)), (34, (.negSucc 2147483647), (.ofNat 2147483647)), (36, (.negSucc 2147483647), (.ofNat 2147483647))], [], [.inr (.inl (some 0)), .inl (false, ((.ofNat 0), [(0, (.ofNat 1))])), .inr (.inl (some 5))], [zc237,
    zc174,
    zc174,
    zc174,
    zc238,
    zc239,
    zc240,
    zc241,
    zc53,
    zc242,
    zc97,
    zc243,
    zc63,
    zc244,
    zc34,
    zc245,
    zc66,
    zc102,
    zc68,
    zc69,
    zc174], []),
  [((42, [(41, (.negSucc 2147483647), (.ofNat 2147483647))], [], [.inl (false, ((.ofNat 0), [(41, (.ofNat 1))]))], [zc237,
    zc174,
    zc174,
    zc174,
    zc238,
    zc239,
    zc240,
    zc241,
    zc53,
    zc242,
    zc97,
    zc243,
    zc63,
    zc244,
    zc34,
    zc245,
    zc66,
    zc102,
    zc68,
    zc69,
    zc174], []), 0, 0)])
noncomputable def c56_0_e : List Ct := []
noncomputable def c56_0_pts : List PE := []
set_option maxRecDepth 100000 in
theorem c56_0_k : enCtF c56_0 c56_0_e (c56_0_pts ++ []) (none) noH 3000 = true := by decide +kernel
set_option maxRecDepth 100000 in
theorem c56_0_v : ValidC PPk c56_0 := ct_ok fpk noH_ok (d := 0) (ext := []) (pts := c56_0_pts) (env := c56_0_e) rfl (fun _ h => (by cases h)) ext_nil (fun q h => (by cases h)) (enF c56_0_k) (fun _ h => (by cases h))

noncomputable def c57_0 : Ct := (57, 1, (1, [(0, (.ofNat 0), (.ofNat 6))], [], [.inr (.inl (some 0)), .inl (false, ((.ofNat 0), [(0, (.ofNat 1))]))], [.inr (1, .inr (.inl 6))], []),
  [((2, [(1, (.negSucc 9223372036854775807), (.ofNat 9223372036854775807))], [], [.inl (true, ((.ofNat 0), [(1, (.ofNat 1))]))], [.inr (1, .inr (.inl 6))], []), 0, 0)])
noncomputable def c57_0_e : List Ct := []
noncomputable def c57_0_p0 : PE := (14, [0, 1, 2], (1, [(0, (.ofNat 1), (.ofNat 1))], [], [.inr (.inl (some 0)), .inl (false, ((.ofNat 0), [(0, (.ofNat 1))])), .inl (false, ((.ofNat 1), []))], [.inr (1, .inr (.inl 6))], []), symsL 1 0, some ((.ofNat 426), []), 0, 0)
noncomputable def c57_0_p1 : PE := (14, [0, 1, 2], (1, [(0, (.ofNat 2), (.ofNat 2))], [], [.inr (.inl (some 0)), .inl (false, ((.ofNat 0), [(0, (.ofNat 1))])), .inl (false, ((.ofNat 1), []))], [.inr (1, .inr (.inl 6))], []), symsL 1 0, some ((.ofNat 426), []), 0, 0)
noncomputable def c57_0_p2 : PE := (14, [0, 1, 2, 3, 5], (3, [(0, (.ofNat 2), (.ofNat 2)), (1, (.negSucc 9223372036854775807), (.ofNat 9223372036854775807)), (2, (.ofNat 0), (.ofNat 1))], [], [.inr (.inl (some 0)), .inl (false, ((.ofNat 0), [(0, (.ofNat 1))])), .inl (false, ((.ofNat 2), [])), .inl (true, ((.ofNat 0), [(1, (.ofNat 1))])), .inl (false, ((.ofNat 0), [(2, (.ofNat 1))]))], [.inr (1, .inr (.inl 6))], []), symsL 1 0, some ((.ofNat 402), []), 0, 0)
noncomputable def c57_0_p3 : PE := (14, [0, 1, 2], (1, [(0, (.ofNat 3), (.ofNat 3))], [], [.inr (.inl (some 0)), .inl (false, ((.ofNat 0), [(0, (.ofNat 1))])), .inl (false, ((.ofNat 1), []))], [.inr (1, .inr (.inl 6))], []), symsL 1 0, some ((.ofNat 426), []), 0, 0)
noncomputable def c57_0_p4 : PE := (14, [0, 1, 2, 3, 5], (4, [(0, (.ofNat 3), (.ofNat 3)), (1, (.ofNat 2), (.ofNat 3)), (2, (.negSucc 9223372036854775807), (.ofNat 9223372036854775807)), (3, (.ofNat 0), (.ofNat 2))], [], [.inr (.inl (some 0)), .inl (false, ((.ofNat 0), [(0, (.ofNat 1))])), .inl (false, ((.ofNat 0), [(1, (.ofNat 1))])), .inl (true, ((.ofNat 0), [(2, (.ofNat 1))])), .inl (false, ((.ofNat 0), [(3, (.ofNat 1))]))], [.inr (1, .inr (.inl 6))], []), symsL 1 0, some ((.ofNat 450), [(1, (.negSucc 23))]), 0, 0)
noncomputable def c57_0_p5 : PE := (14, [0, 1, 2], (1, [(0, (.ofNat 4), (.ofNat 4))], [], [.inr (.inl (some 0)), .inl (false, ((.ofNat 0), [(0, (.ofNat 1))])), .inl (false, ((.ofNat 1), []))], [.inr (1, .inr (.inl 6))], []), symsL 1 0, some ((.ofNat 426), []), 0, 0)
noncomputable def c57_0_p6 : PE := (14, [0, 1, 2, 3, 5], (4, [(0, (.ofNat 4), (.ofNat 4)), (1, (.ofNat 2), (.ofNat 4)), (2, (.negSucc 9223372036854775807), (.ofNat 9223372036854775807)), (3, (.ofNat 0), (.ofNat 3))], [], [.inr (.inl (some 0)), .inl (false, ((.ofNat 0), [(0, (.ofNat 1))])), .inl (false, ((.ofNat 0), [(1, (.ofNat 1))])), .inl (true, ((.ofNat 0), [(2, (.ofNat 1))])), .inl (false, ((.ofNat 0), [(3, (.ofNat 1))]))], [.inr (1, .inr (.inl 6))], []), symsL 1 0, some ((.ofNat 450), [(1, (.negSucc 23))]), 0, 0)
noncomputable def c57_0_p7 : PE := (14, [0, 1, 2], (1, [(0, (.ofNat 5), (.ofNat 5))], [], [.inr (.inl (some 0)), .inl (false, ((.ofNat 0), [(0, (.ofNat 1))])), .inl (false, ((.ofNat 1), []))], [.inr (1, .inr (.inl 6))], []), symsL 1 0, some ((.ofNat 426), []), 0, 0)
noncomputable def c57_0_p8 : PE := (14, [0, 1, 2, 3, 5], (4, [(0, (.ofNat 5), (.ofNat 5)), (1, (.ofNat 2), (.ofNat 5)), (2, (.negSucc 9223372036854775807), (.ofNat 9223372036854775807)), (3, (.ofNat 0), (.ofNat 4))], [], [.inr (.inl (some 0)), .inl (false, ((.ofNat 0), [(0, (.ofNat 1))])), .inl (false, ((.ofNat 0), [(1, (.ofNat 1))])), .inl (true, ((.ofNat 0), [(2, (.ofNat 1))])), .inl (false, ((.ofNat 0), [(3, (.ofNat 1))]))], [.inr (1, .inr (.inl 6))], []), symsL 1 0, some ((.ofNat 450), [(1, (.negSucc 23))]), 0, 0)
noncomputable def c57_0_p9 : PE := (14, [0, 1, 2], (1, [(0, (.ofNat 6), (.ofNat 6))], [], [.inr (.inl (some 0)), .inl (false, ((.ofNat 0), [(0, (.ofNat 1))])), .inl (false, ((.ofNat 1), []))], [.inr (1, .inr (.inl 6))], []), symsL 1 0, some ((.ofNat 426), []), 0, 0)
noncomputable def c57_0_p10 : PE := (14, [0, 1, 2, 3, 5], (4, [(0, (.ofNat 6), (.ofNat 6)), (1, (.ofNat 2), (.ofNat 6)), (2, (.negSucc 9223372036854775807), (.ofNat 9223372036854775807)), (3, (.ofNat 0), (.ofNat 5))], [], [.inr (.inl (some 0)), .inl (false, ((.ofNat 0), [(0, (.ofNat 1))])), .inl (false, ((.ofNat 0), [(1, (.ofNat 1))])), .inl (true, ((.ofNat 0), [(2, (.ofNat 1))])), .inl (false, ((.ofNat 0), [(3, (.ofNat 1))]))], [.inr (1, .inr (.inl 6))], []), symsL 1 0, some ((.ofNat 450), [(1, (.negSucc 23))]), 0, 0)
noncomputable def c57_0_p11 : PE := (26, [0, 1, 2, 3, 5], (3, [(0, (.ofNat 2), (.ofNat 2)), (1, (.negSucc 9223372036854775807), (.ofNat 9223372036854775807)), (2, (.ofNat 0), (.ofNat 1))], [], [.inr (.inl (some 0)), .inl (false, ((.ofNat 0), [(0, (.ofNat 1))])), .inl (false, ((.ofNat 1), [])), .inl (true, ((.ofNat 0), [(1, (.ofNat 1))])), .inl (false, ((.ofNat 0), [(2, (.ofNat 1))]))], [.inr (1, .inr (.inl 6))], []), symsL 1 0, some ((.ofNat 414), [(2, (.ofNat 1))]), 0, 0)
noncomputable def c57_0_p12 : PE := (26, [0, 1, 2, 3, 5], (4, [(0, (.ofNat 3), (.ofNat 3)), (1, (.ofNat 1), (.ofNat 2)), (2, (.negSucc 9223372036854775807), (.ofNat 9223372036854775807)), (3, (.ofNat 0), (.ofNat 2))], [], [.inr (.inl (some 0)), .inl (false, ((.ofNat 0), [(0, (.ofNat 1))])), .inl (false, ((.ofNat 0), [(1, (.ofNat 1))])), .inl (true, ((.ofNat 0), [(2, (.ofNat 1))])), .inl (false, ((.ofNat 0), [(3, (.ofNat 1))]))], [.inr (1, .inr (.inl 6))], []), symsL 1 0, some ((.ofNat 438), [(1, (.negSucc 23)), (3, (.ofNat 1))]), 0, 0)
noncomputable def c57_0_p13 : PE := (26, [0, 1, 2, 3, 5], (4, [(0, (.ofNat 4), (.ofNat 4)), (1, (.ofNat 1), (.ofNat 3)), (2, (.negSucc 9223372036854775807), (.ofNat 9223372036854775807)), (3, (.ofNat 0), (.ofNat 3))], [], [.inr (.inl (some 0)), .inl (false, ((.ofNat 0), [(0, (.ofNat 1))])), .inl (false, ((.ofNat 0), [(1, (.ofNat 1))])), .inl (true, ((.ofNat 0), [(2, (.ofNat 1))])), .inl (false, ((.ofNat 0), [(3, (.ofNat 1))]))], [.inr (1, .inr (.inl 6))], []), symsL 1 0, some ((.ofNat 438), [(1, (.negSucc 23)), (3, (.ofNat 1))]), 0, 0)
noncomputable def c57_0_p14 : PE := (26, [0, 1, 2, 3, 5], (4, [(0, (.ofNat 5), (.ofNat 5)), (1, (.ofNat 1), (.ofNat 4)), (2, (.negSucc 9223372036854775807), (.ofNat 9223372036854775807)), (3, (.ofNat 0), (.ofNat 4))], [], [.inr (.inl (some 0)), .inl (false, ((.ofNat 0), [(0, (.ofNat 1))])), .inl (false, ((.ofNat 0), [(1, (.ofNat 1))])), .inl (true, ((.ofNat 0), [(2, (.ofNat 1))])), .inl (false, ((.ofNat 0), [(3, (.ofNat 1))]))], [.inr (1, .inr (.inl 6))], []), symsL 1 0, some ((.ofNat 438), [(1, (.negSucc 23)), (3, (.ofNat 1))]), 0, 0)
noncomputable def c57_0_p15 : PE := (26, [0, 1, 2, 3, 5], (4, [(0, (.ofNat 6), (.ofNat 6)), (1, (.ofNat 1), (.ofNat 5)), (2, (.negSucc 9223372036854775807), (.ofNat 9223372036854775807)), (3, (.ofNat 0), (.ofNat 5))], [], [.inr (.inl (some 0)), .inl (false, ((.ofNat 0), [(0, (.ofNat 1))])), .inl (false, ((.ofNat 0), [(1, (.ofNat 1))])), .inl (true, ((.ofNat 0), [(2, (.ofNat 1))])), .inl (false, ((.ofNat 0), [(3, (.ofNat 1))]))], [.inr (1, .inr (.inl 6))], []), symsL 1 0, some ((.ofNat 438), [(1, (.negSucc 23)), (3, (.ofNat 1))]), 0, 0)
noncomputable def c57_0_pts : List PE := [c57_0_p0, c57_0_p1, c57_0_p2, c57_0_p3, c57_0_p4, c57_0_p5, c57_0_p6, c57_0_p7, c57_0_p8, c57_0_p9, c57_0_p10, c57_0_p11, c57_0_p12, c57_0_p13, c57_0_p14, c57_0_p15]
set_option maxRecDepth 100000 in
theorem c57_0_k : enCtF c57_0 c57_0_e (c57_0_pts ++ []) (some (0, 0, 7)) (noF, noM, 67125248, 0, 1) 3000 = true := by decide +kernel
set_option maxRecDepth 100000 in
theorem c57_0_k0 : ptCtF c57_0 c57_0_e (c57_0_pts ++ []) (noF, noM, 67125248, 0, 1) 3000 c57_0_p0 = true := by decide +kernel
set_option maxRecDepth 100000 in
theorem c57_0_k1 : ptCtF c57_0 c57_0_e (c57_0_pts ++ []) (noF, noM, 67125248, 0, 1) 3000 c57_0_p1 = true := by decide +kernel
set_option maxRecDepth 100000 in
theorem c57_0_k2 : ptCtF c57_0 c57_0_e (c57_0_pts ++ []) (noF, noM, 67125248, 0, 1) 3000 c57_0_p2 = true := by decide +kernel
set_option maxRecDepth 100000 in
theorem c57_0_k3 : ptCtF c57_0 c57_0_e (c57_0_pts ++ []) (noF, noM, 67125248, 0, 1) 3000 c57_0_p3 = true := by decide +kernel
set_option maxRecDepth 100000 in
theorem c57_0_k4 : ptCtF c57_0 c57_0_e (c57_0_pts ++ []) (noF, noM, 67125248, 0, 1) 3000 c57_0_p4 = true := by decide +kernel
set_option maxRecDepth 100000 in
theorem c57_0_k5 : ptCtF c57_0 c57_0_e (c57_0_pts ++ []) (noF, noM, 67125248, 0, 1) 3000 c57_0_p5 = true := by decide +kernel
set_option maxRecDepth 100000 in
theorem c57_0_k6 : ptCtF c57_0 c57_0_e (c57_0_pts ++ []) (noF, noM, 67125248, 0, 1) 3000 c57_0_p6 = true := by decide +kernel
set_option maxRecDepth 100000 in
theorem c57_0_k7 : ptCtF c57_0 c57_0_e (c57_0_pts ++ []) (noF, noM, 67125248, 0, 1) 3000 c57_0_p7 = true := by decide +kernel
set_option maxRecDepth 100000 in
theorem c57_0_k8 : ptCtF c57_0 c57_0_e (c57_0_pts ++ []) (noF, noM, 67125248, 0, 1) 3000 c57_0_p8 = true := by decide +kernel
set_option maxRecDepth 100000 in
theorem c57_0_k9 : ptCtF c57_0 c57_0_e (c57_0_pts ++ []) (noF, noM, 67125248, 0, 1) 3000 c57_0_p9 = true := by decide +kernel
set_option maxRecDepth 100000 in
theorem c57_0_k10 : ptCtF c57_0 c57_0_e (c57_0_pts ++ []) (noF, noM, 67125248, 0, 1) 3000 c57_0_p10 = true := by decide +kernel
set_option maxRecDepth 100000 in
theorem c57_0_k11 : ptCtF c57_0 c57_0_e (c57_0_pts ++ []) (noF, noM, 67125248, 0, 1) 3000 c57_0_p11 = true := by decide +kernel
set_option maxRecDepth 100000 in
theorem c57_0_k12 : ptCtF c57_0 c57_0_e (c57_0_pts ++ []) (noF, noM, 67125248, 0, 1) 3000 c57_0_p12 = true := by decide +kernel
set_option maxRecDepth 100000 in
theorem c57_0_k13 : ptCtF c57_0 c57_0_e (c57_0_pts ++ []) (noF, noM, 67125248, 0, 1) 3000 c57_0_p13 = true := by decide +kernel
set_option maxRecDepth 100000 in
theorem c57_0_k14 : ptCtF c57_0 c57_0_e (c57_0_pts ++ []) (noF, noM, 67125248, 0, 1) 3000 c57_0_p14 = true := by decide +kernel
set_option maxRecDepth 100000 in
theorem c57_0_k15 : ptCtF c57_0 c57_0_e (c57_0_pts ++ []) (noF, noM, 67125248, 0, 1) 3000 c57_0_p15 = true := by decide +kernel
set_option maxRecDepth 100000 in
theorem c57_0_v : ValidC PPk c57_0 := ct_ok fpk ⟨noF_ok, noM_ok⟩ (d := 0) (ext := []) (pts := c57_0_pts) (env := c57_0_e) rfl (fun _ h => (by cases h)) ext_nil (fun q h => (by cases h; exact Nat.le_of_ble_eq_true rfl)) (enF c57_0_k) (List.forall_mem_cons.mpr ⟨ptF c57_0_k0, List.forall_mem_cons.mpr ⟨ptF c57_0_k1, List.forall_mem_cons.mpr ⟨ptF c57_0_k2, List.forall_mem_cons.mpr ⟨ptF c57_0_k3, List.forall_mem_cons.mpr ⟨ptF c57_0_k4, List.forall_mem_cons.mpr ⟨ptF c57_0_k5, List.forall_mem_cons.mpr ⟨ptF c57_0_k6, List.forall_mem_cons.mpr ⟨ptF c57_0_k7, List.forall_mem_cons.mpr ⟨ptF c57_0_k8, List.forall_mem_cons.mpr ⟨ptF c57_0_k9, List.forall_mem_cons.mpr ⟨ptF c57_0_k10, List.forall_mem_cons.mpr ⟨ptF c57_0_k11, List.forall_mem_cons.mpr ⟨ptF c57_0_k12, List.forall_mem_cons.mpr ⟨ptF c57_0_k13, List.forall_mem_cons.mpr ⟨ptF c57_0_k14, List.forall_mem_cons.mpr ⟨ptF c57_0_k15, fun _ h => (by cases h)⟩⟩⟩⟩⟩⟩⟩⟩⟩⟩⟩⟩⟩⟩⟩⟩)
