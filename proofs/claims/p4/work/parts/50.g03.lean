/-! ===== contracts, written by wip/vse3/emitlaw.py ===== -/
noncomputable def c37_0 : Ct := (37, 6, (4, [(0, (.ofNat 0), (.ofNat 60)), (1, (.negSucc 2147483647), (.ofNat 2147483647)), (2, (.ofNat 0), (.ofNat 60)), (3, (.ofNat 0), (.ofNat 60))], [], [.inr (.inl (some 0)), .inl (false, ((.ofNat 8), []))], [zc222,
    zc223,
    zc105,
    .inr (1, .inr (.inl 60))], []),
  [((7, [(4, (.negSucc 2147483647), (.ofNat 2147483647)), (5, (.ofNat 0), (.ofNat 60)), (6, (.ofNat 0), (.ofNat 60))], [], [], [zc231,
    zc223,
    zc105,
    .inr (1, .inr (.inl 60))], []), 0, 0)])
noncomputable def c37_0_e : List Ct := [c38_0, c40_0, c44_0]
noncomputable def c37_0_p0 : PE := (7, [0, 1, 2], (7, [(0, (.ofNat 0), (.ofNat 60)), (1, (.negSucc 2147483647), (.ofNat 2147483647)), (2, (.ofNat 0), (.ofNat 60)), (3, (.ofNat 0), (.ofNat 60)), (4, (.negSucc 2147483647), (.ofNat 2147483647)), (5, (.ofNat 0), (.ofNat 60)), (6, (.ofNat 0), (.ofNat 60))], [], [.inr (.inl (some 0)), .inl (false, ((.ofNat 8), [])), .inl (false, ((.ofNat 0), []))], [zc231,
    zc223,
    zc105,
    .inr (1, .inr (.inl 60))], []), symsL 4 0, some ((.ofNat 121), []), 0, 0)
noncomputable def c37_0_p1 : PE := (7, [0, 1, 2, 3], (9, [(0, (.ofNat 1), (.ofNat 60)), (1, (.negSucc 2147483647), (.ofNat 2147483647)), (2, (.ofNat 0), (.ofNat 60)), (3, (.ofNat 0), (.ofNat 60)), (4, (.ofNat 1), (.ofNat 60)), (5, (.ofNat 43), (.ofNat 45)), (6, (.negSucc 2147483647), (.ofNat 2147483647)), (7, (.ofNat 0), (.ofNat 60)), (8, (.ofNat 1), (.ofNat 60))], [], [.inr (.inl (some 0)), .inl (false, ((.ofNat 8), [])), .inl (false, ((.ofNat 0), [(4, (.ofNat 1))])), .inl (false, ((.ofNat 0), [(5, (.ofNat 1))]))], [zc234,
    zc223,
    zc105,
    .inr (1, .inr (.inl 60))], []), symsL 4 0, some ((.ofNat 121), [(4, (.negSucc 0))]), 0, 0)
noncomputable def c37_0_pts : List PE := [c37_0_p0, c37_0_p1]
set_option maxRecDepth 100000 in
theorem c37_0_k : enCtF c37_0 c37_0_e (c37_0_pts ++ []) (none) (noF, noM, 128, 0, 4) 3000 = true := by decide +kernel
set_option maxRecDepth 100000 in
theorem c37_0_k0 : ptCtF c37_0 c37_0_e (c37_0_pts ++ []) (noF, noM, 128, 0, 4) 3000 c37_0_p0 = true := by decide +kernel
set_option maxRecDepth 100000 in
theorem c37_0_k1 : ptCtF c37_0 c37_0_e (c37_0_pts ++ []) (noF, noM, 128, 0, 4) 3000 c37_0_p1 = true := by decide +kernel
set_option maxRecDepth 100000 in
theorem c37_0_v : ValidC PPk c37_0 := ct_ok fpk ⟨noF_ok, noM_ok⟩ (d := 5) (ext := []) (pts := c37_0_pts) (env := c37_0_e) rfl (List.forall_mem_cons.mpr ⟨⟨c38_0_v, Nat.le_of_ble_eq_true rfl⟩, List.forall_mem_cons.mpr ⟨⟨c40_0_v, Nat.le_of_ble_eq_true rfl⟩, List.forall_mem_cons.mpr ⟨⟨c44_0_v, Nat.le_of_ble_eq_true rfl⟩, fun _ h => (by cases h)⟩⟩⟩) ext_nil (fun q h => (by cases h)) (enF c37_0_k) (List.forall_mem_cons.mpr ⟨ptF c37_0_k0, List.forall_mem_cons.mpr ⟨ptF c37_0_k1, fun _ h => (by cases h)⟩⟩)

noncomputable def c36_0 : Ct := (36, 7, (4, [(0, (.ofNat 0), (.ofNat 60)), (1, (.negSucc 2147483647), (.ofNat 2147483647)), (2, (.ofNat 0), (.ofNat 60)), (3, (.ofNat 0), (.ofNat 60))], [], [.inr (.inl (some 0)), .inl (false, ((.ofNat 8), []))], [zc222,
    zc223,
    zc105,
    .inr (1, .inr (.inl 60))], []),
  [((7, [(4, (.negSucc 2147483647), (.ofNat 2147483647)), (5, (.ofNat 0), (.ofNat 60)), (6, (.ofNat 0), (.ofNat 60))], [], [], [zc231,
    zc223,
    zc105,
    .inr (1, .inr (.inl 60))], []), 0, 0)])
noncomputable def c36_0_e : List Ct := [c37_0, c40_0, c44_0]
noncomputable def c36_0_pts : List PE := []
set_option maxRecDepth 100000 in
theorem c36_0_k : enCtF c36_0 c36_0_e (c36_0_pts ++ []) (none) noH 3000 = true := by decide +kernel
set_option maxRecDepth 100000 in
theorem c36_0_v : ValidC PPk c36_0 := ct_ok fpk noH_ok (d := 6) (ext := []) (pts := c36_0_pts) (env := c36_0_e) rfl (List.forall_mem_cons.mpr ⟨⟨c37_0_v, Nat.le_of_ble_eq_true rfl⟩, List.forall_mem_cons.mpr ⟨⟨c40_0_v, Nat.le_of_ble_eq_true rfl⟩, List.forall_mem_cons.mpr ⟨⟨c44_0_v, Nat.le_of_ble_eq_true rfl⟩, fun _ h => (by cases h)⟩⟩⟩) ext_nil (fun q h => (by cases h)) (enF c36_0_k) (fun _ h => (by cases h))

def zc235 : AC := .inl (5, [.inl (false, ((.ofNat 0), [(0, (.ofNat 1))])), .inr (.inl (some 1)), .inl (false, ((.ofNat 0), [(5, (.ofNat 1))])), .inl (false, ((.ofNat 0), [(6, (.ofNat 1))])), .inl (false, ((.ofNat 0), [(7, (.ofNat 1))])), .inr (.inl (some 2)), .inr (.inl (some 3))])
noncomputable def c35_0 : Ct := (35, 8, (4, [(0, (.ofNat 0), (.ofNat 60)), (1, (.negSucc 2147483647), (.ofNat 2147483647)), (2, (.ofNat 0), (.ofNat 60)), (3, (.ofNat 0), (.ofNat 60))], [], [.inr (.inl (some 0)), .inl (false, ((.ofNat 8), []))], [zc222,
    zc223,
    zc105,
    .inr (1, .inr (.inl 60))], []),
  [((7, [(4, (.negSucc 2147483647), (.ofNat 2147483647)), (5, (.ofNat 0), (.ofNat 60)), (6, (.ofNat 0), (.ofNat 60))], [], [], [zc231,
    zc223,
    zc105,
    .inr (1, .inr (.inl 60))], []), 0, 0)])
noncomputable def c35_0_e : List Ct := [c36_0, c40_0, c44_0]
noncomputable def c35_0_p0 : PE := (7, [0, 1, 2], (8, [(0, (.ofNat 0), (.ofNat 60)), (1, (.negSucc 2147483647), (.ofNat 2147483647)), (2, (.ofNat 0), (.ofNat 60)), (3, (.ofNat 0), (.ofNat 60)), (4, (.ofNat 0), (.ofNat 60)), (5, (.negSucc 2147483647), (.ofNat 2147483647)), (6, (.ofNat 0), (.ofNat 60)), (7, (.ofNat 0), (.ofNat 60))], [], [.inr (.inl (some 0)), .inl (false, ((.ofNat 8), [])), .inl (false, ((.ofNat 0), [(4, (.ofNat 1))]))], [zc235,
    zc223,
    zc105,
    .inr (1, .inr (.inl 60))], []), symsL 4 0, some ((.ofNat 121), [(4, (.negSucc 0))]), 0, 0)
noncomputable def c35_0_pts : List PE := [c35_0_p0]
set_option maxRecDepth 100000 in
theorem c35_0_k : enCtF c35_0 c35_0_e (c35_0_pts ++ []) (none) (noF, noM, 128, 0, 4) 3000 = true := by decide +kernel
set_option maxRecDepth 100000 in
theorem c35_0_k0 : ptCtF c35_0 c35_0_e (c35_0_pts ++ []) (noF, noM, 128, 0, 4) 3000 c35_0_p0 = true := by decide +kernel
set_option maxRecDepth 100000 in
theorem c35_0_v : ValidC PPk c35_0 := ct_ok fpk ⟨noF_ok, noM_ok⟩ (d := 7) (ext := []) (pts := c35_0_pts) (env := c35_0_e) rfl (List.forall_mem_cons.mpr ⟨⟨c36_0_v, Nat.le_of_ble_eq_true rfl⟩, List.forall_mem_cons.mpr ⟨⟨c40_0_v, Nat.le_of_ble_eq_true rfl⟩, List.forall_mem_cons.mpr ⟨⟨c44_0_v, Nat.le_of_ble_eq_true rfl⟩, fun _ h => (by cases h)⟩⟩⟩) ext_nil (fun q h => (by cases h)) (enF c35_0_k) (List.forall_mem_cons.mpr ⟨ptF c35_0_k0, fun _ h => (by cases h)⟩)

noncomputable def c34_0 : Ct := (34, 9, (4, [(0, (.ofNat 0), (.ofNat 60)), (1, (.negSucc 2147483647), (.ofNat 2147483647)), (2, (.ofNat 0), (.ofNat 60)), (3, (.ofNat 0), (.ofNat 60))], [], [.inr (.inl (some 0)), .inl (false, ((.ofNat 8), []))], [zc222,
    zc223,
    zc105,
    .inr (1, .inr (.inl 60))], []),
  [((7, [(4, (.negSucc 2147483647), (.ofNat 2147483647)), (5, (.ofNat 0), (.ofNat 60)), (6, (.ofNat 0), (.ofNat 60))], [], [], [zc231,
    zc223,
    zc105,
    .inr (1, .inr (.inl 60))], []), 0, 0)])
noncomputable def c34_0_e : List Ct := [c35_0, c40_0, c44_0]
noncomputable def c34_0_p0 : PE := (7, [0, 1, 2], (8, [(0, (.ofNat 0), (.ofNat 60)), (1, (.negSucc 2147483647), (.ofNat 2147483647)), (2, (.ofNat 0), (.ofNat 60)), (3, (.ofNat 0), (.ofNat 60)), (4, (.ofNat 0), (.ofNat 60)), (5, (.negSucc 2147483647), (.ofNat 2147483647)), (6, (.ofNat 0), (.ofNat 60)), (7, (.ofNat 0), (.ofNat 60))], [], [.inr (.inl (some 0)), .inl (false, ((.ofNat 8), [])), .inl (false, ((.ofNat 0), [(4, (.ofNat 1))]))], [zc235,
    zc223,
    zc105,
    .inr (1, .inr (.inl 60))], []), symsL 4 0, some ((.ofNat 121), [(4, (.negSucc 0))]), 0, 0)
noncomputable def c34_0_pts : List PE := [c34_0_p0]
set_option maxRecDepth 100000 in
theorem c34_0_k : enCtF c34_0 c34_0_e (c34_0_pts ++ []) (none) (noF, noM, 128, 0, 4) 3000 = true := by decide +kernel
set_option maxRecDepth 100000 in
theorem c34_0_k0 : ptCtF c34_0 c34_0_e (c34_0_pts ++ []) (noF, noM, 128, 0, 4) 3000 c34_0_p0 = true := by decide +kernel
set_option maxRecDepth 100000 in
theorem c34_0_v : ValidC PPk c34_0 := ct_ok fpk ⟨noF_ok, noM_ok⟩ (d := 8) (ext := []) (pts := c34_0_pts) (env := c34_0_e) rfl (List.forall_mem_cons.mpr ⟨⟨c35_0_v, Nat.le_of_ble_eq_true rfl⟩, List.forall_mem_cons.mpr ⟨⟨c40_0_v, Nat.le_of_ble_eq_true rfl⟩, List.forall_mem_cons.mpr ⟨⟨c44_0_v, Nat.le_of_ble_eq_true rfl⟩, fun _ h => (by cases h)⟩⟩⟩) ext_nil (fun q h => (by cases h)) (enF c34_0_k) (List.forall_mem_cons.mpr ⟨ptF c34_0_k0, fun _ h => (by cases h)⟩)

noncomputable def c45_1 : Ct := (45, 10, (4, [(0, (.ofNat 0), (.ofNat 60)), (1, (.negSucc 2147483647), (.ofNat 2147483647)), (2, (.ofNat 0), (.ofNat 60)), (3, (.ofNat 0), (.ofNat 60))], [((.ofNat 1), [(0, (.negSucc 0)), (2, (.ofNat 1))])], [.inr (.inl (some 0)), .inl (false, ((.ofNat 7), []))], [zc222,
    zc223,
    zc105,
    .inr (1, .inr (.inl 60))], []),
  [((7, [(4, (.negSucc 2147483647), (.ofNat 2147483647)), (5, (.ofNat 0), (.ofNat 60)), (6, (.ofNat 0), (.ofNat 60))], [], [], [zc231,
    zc223,
    zc105,
    .inr (1, .inr (.inl 60))], []), 0, 0)])
noncomputable def c45_1_e : List Ct := [c34_0, c40_0, c43_0]
noncomputable def c45_1_pts : List PE := []
set_option maxRecDepth 100000 in
theorem c45_1_k : enCtF c45_1 c45_1_e (c45_1_pts ++ []) (none) noH 3000 = true := by decide +kernel
set_option maxRecDepth 100000 in
theorem c45_1_v : ValidC PPk c45_1 := ct_ok fpk noH_ok (d := 9) (ext := []) (pts := c45_1_pts) (env := c45_1_e) rfl (List.forall_mem_cons.mpr ⟨⟨c34_0_v, Nat.le_of_ble_eq_true rfl⟩, List.forall_mem_cons.mpr ⟨⟨c40_0_v, Nat.le_of_ble_eq_true rfl⟩, List.forall_mem_cons.mpr ⟨⟨c43_0_v, Nat.le_of_ble_eq_true rfl⟩, fun _ h => (by cases h)⟩⟩⟩) ext_nil (fun q h => (by cases h)) (enF c45_1_k) (fun _ h => (by cases h))

noncomputable def c41_2 : Ct := (41, 11, (5, [(0, (.negSucc 2147483647), (.ofNat 2147483647)), (1, (.ofNat 0), (.ofNat 60)), (2, (.negSucc 2147483647), (.ofNat 2147483647)), (3, (.ofNat 0), (.ofNat 60)), (4, (.ofNat 0), (.ofNat 60))], [((.ofNat 1), [(1, (.negSucc 0)), (3, (.ofNat 1))])], [.inr (.inl (some 0)), .inl (false, ((.ofNat 0), [(0, (.ofNat 1))])), .inl (false, ((.ofNat 7), []))], [zc229,
    zc223,
    zc105,
    .inr (1, .inr (.inl 60))], []),
  [((8, [(5, (.negSucc 2147483647), (.ofNat 2147483647)), (6, (.ofNat 0), (.ofNat 60)), (7, (.ofNat 0), (.ofNat 60))], [], [], [zc232,
    zc223,
    zc105,
    .inr (1, .inr (.inl 60))], []), 0, 0)])
noncomputable def c41_2_e : List Ct := [c42_0, c43_0, c44_0, c45_1]
noncomputable def c41_2_pts : List PE := []
set_option maxRecDepth 100000 in
theorem c41_2_k : enCtF c41_2 c41_2_e (c41_2_pts ++ []) (none) noH 3000 = true := by decide +kernel
set_option maxRecDepth 100000 in
theorem c41_2_v : ValidC PPk c41_2 := ct_ok fpk noH_ok (d := 10) (ext := []) (pts := c41_2_pts) (env := c41_2_e) rfl (List.forall_mem_cons.mpr ⟨⟨c42_0_v, Nat.le_of_ble_eq_true rfl⟩, List.forall_mem_cons.mpr ⟨⟨c43_0_v, Nat.le_of_ble_eq_true rfl⟩, List.forall_mem_cons.mpr ⟨⟨c44_0_v, Nat.le_of_ble_eq_true rfl⟩, List.forall_mem_cons.mpr ⟨⟨c45_1_v, Nat.le_of_ble_eq_true rfl⟩, fun _ h => (by cases h)⟩⟩⟩⟩) ext_nil (fun q h => (by cases h)) (enF c41_2_k) (fun _ h => (by cases h))

noncomputable def c41_3 : Ct := (41, 2, (6, [(0, (.ofNat 0), (.ofNat 60)), (1, (.negSucc 2147483647), (.ofNat 2147483647)), (2, (.ofNat 0), (.ofNat 60)), (3, (.ofNat 0), (.ofNat 60))], [], [.inr (.inl (some 0)), .inl (false, ((.negSucc 0), [])), .inl (false, ((.ofNat 7), []))], [zc222,
    zc227,
    zc156,
    .inr (1, .inr (.inl 60))], []),
  [((7, [(6, (.negSucc 2147483647), (.ofNat 2147483647))], [], [], [zc228,
    zc227,
    zc156,
    .inr (1, .inr (.inl 60))], []), 0, 0)])
noncomputable def c41_3_e : List Ct := [c43_0]
noncomputable def c41_3_pts : List PE := []
set_option maxRecDepth 100000 in
theorem c41_3_k : enCtF c41_3 c41_3_e (c41_3_pts ++ []) (none) noH 3000 = true := by decide +kernel
set_option maxRecDepth 100000 in
theorem c41_3_v : ValidC PPk c41_3 := ct_ok fpk noH_ok (d := 1) (ext := []) (pts := c41_3_pts) (env := c41_3_e) rfl (List.forall_mem_cons.mpr ⟨⟨c43_0_v, Nat.le_of_ble_eq_true rfl⟩, fun _ h => (by cases h)⟩) ext_nil (fun q h => (by cases h)) (enF c41_3_k) (fun _ h => (by cases h))

noncomputable def c39_1 : Ct := (39, 12, (4, [(0, (.ofNat 0), (.ofNat 60)), (1, (.negSucc 2147483647), (.ofNat 2147483647)), (2, (.ofNat 0), (.ofNat 60)), (3, (.ofNat 0), (.ofNat 60))], [], [.inr (.inl (some 0)), .inl (false, ((.ofNat 7), []))], [zc222,
    zc223,
    zc105,
    .inr (1, .inr (.inl 60))], []),
  [((7, [(4, (.negSucc 2147483647), (.ofNat 2147483647)), (5, (.ofNat 0), (.ofNat 60)), (6, (.ofNat 0), (.ofNat 60))], [], [], [zc231,
    zc223,
    zc105,
    .inr (1, .inr (.inl 60))], []), 0, 0)])
noncomputable def c39_1_e : List Ct := [c40_0, c41_2, c41_3, c44_0]
noncomputable def c39_1_p0 : PE := (13, [0, 1, 2, 3, 4], (7, [(0, (.ofNat 1), (.ofNat 60)), (1, (.negSucc 0), (.negSucc 0)), (2, (.ofNat 0), (.ofNat 60)), (3, (.ofNat 0), (.ofNat 60)), (4, (.ofNat 0), (.ofNat 127)), (5, (.ofNat 0), (.ofNat 60)), (6, (.ofNat 0), (.ofNat 59))], [((.ofNat 1), [(0, (.negSucc 0)), (6, (.ofNat 1))])], [.inr (.inl (some 0)), .inl (false, ((.ofNat 7), [])), .inl (false, ((.ofNat 0), [(2, (.ofNat 1))])), .inl (false, ((.ofNat 0), [(4, (.ofNat 1))])), .inl (false, ((.ofNat 0), [(5, (.ofNat 1))]))], [zc225,
    zc223,
    zc105,
    .inr (1, .inr (.inl 60))], []), symsL 4 0, some ((.ofNat 182), [(5, (.negSucc 0))]), 0, 0)
noncomputable def c39_1_p1 : PE := (13, [0, 1, 2, 3, 4], (6, [(0, (.ofNat 0), (.ofNat 60)), (1, (.negSucc 2147483647), (.ofNat 2147483647)), (2, (.ofNat 0), (.ofNat 60)), (3, (.ofNat 0), (.ofNat 60)), (4, (.ofNat 0), (.ofNat 60)), (5, (.ofNat 0), (.ofNat 60))], [], [.inr (.inl (some 0)), .inl (false, ((.ofNat 7), [])), .inl (false, ((.ofNat 0), [(2, (.ofNat 1))])), .inl (false, ((.negSucc 0), [])), .inl (false, ((.ofNat 0), [(4, (.ofNat 1))]))], [zc224,
    zc223,
    zc105,
    .inr (1, .inr (.inl 60))], []), symsL 4 0, some ((.ofNat 182), [(4, (.negSucc 0))]), 0, 0)
noncomputable def c39_1_p2 : PE := (71, [0, 1, 2, 3, 4, 5], (10, [(0, (.ofNat 0), (.ofNat 60)), (1, (.negSucc 2147483647), (.ofNat 2147483647)), (2, (.ofNat 0), (.ofNat 60)), (3, (.ofNat 0), (.ofNat 60)), (4, (.negSucc 0), (.ofNat 127)), (5, (.ofNat 0), (.ofNat 60)), (6, (.negSucc 0), (.ofNat 59)), (7, (.negSucc 2147483647), (.ofNat 2147483647)), (8, (.ofNat 0), (.ofNat 60)), (9, (.ofNat 0), (.ofNat 60))], [], [.inr (.inl (some 0)), .inl (false, ((.ofNat 7), [])), .inl (false, ((.ofNat 0), [(2, (.ofNat 1))])), .inl (false, ((.ofNat 0), [(4, (.ofNat 1))])), .inl (false, ((.ofNat 0), [(5, (.ofNat 1))])), .inl (false, ((.ofNat 0), [(6, (.ofNat 1))]))], [zc233,
    zc223,
    zc105,
    .inr (1, .inr (.inl 60))], []), symsL 4 0, some ((.ofNat 62), [(6, (.ofNat 1))]), 0, 0)
noncomputable def c39_1_pts : List PE := [c39_1_p0, c39_1_p1, c39_1_p2]
set_option maxRecDepth 100000 in
theorem c39_1_k : enCtF c39_1 c39_1_e (c39_1_pts ++ []) (none) (noF, noM, 2361183241434822615040, 0, 4) 3000 = true := by decide +kernel
set_option maxRecDepth 100000 in
theorem c39_1_k0 : ptCtF c39_1 c39_1_e (c39_1_pts ++ []) (noF, noM, 2361183241434822615040, 0, 4) 3000 c39_1_p0 = true := by decide +kernel
set_option maxRecDepth 100000 in
theorem c39_1_k1 : ptCtF c39_1 c39_1_e (c39_1_pts ++ []) (noF, noM, 2361183241434822615040, 0, 4) 3000 c39_1_p1 = true := by decide +kernel
set_option maxRecDepth 100000 in
theorem c39_1_k2 : ptCtF c39_1 c39_1_e (c39_1_pts ++ []) (noF, noM, 2361183241434822615040, 0, 4) 3000 c39_1_p2 = true := by decide +kernel
set_option maxRecDepth 100000 in
theorem c39_1_v : ValidC PPk c39_1 := ct_ok fpk ⟨noF_ok, noM_ok⟩ (d := 11) (ext := []) (pts := c39_1_pts) (env := c39_1_e) rfl (List.forall_mem_cons.mpr ⟨⟨c40_0_v, Nat.le_of_ble_eq_true rfl⟩, List.forall_mem_cons.mpr ⟨⟨c41_2_v, Nat.le_of_ble_eq_true rfl⟩, List.forall_mem_cons.mpr ⟨⟨c41_3_v, Nat.le_of_ble_eq_true rfl⟩, List.forall_mem_cons.mpr ⟨⟨c44_0_v, Nat.le_of_ble_eq_true rfl⟩, fun _ h => (by cases h)⟩⟩⟩⟩) ext_nil (fun q h => (by cases h)) (enF c39_1_k) (List.forall_mem_cons.mpr ⟨ptF c39_1_k0, List.forall_mem_cons.mpr ⟨ptF c39_1_k1, List.forall_mem_cons.mpr ⟨ptF c39_1_k2, fun _ h => (by cases h)⟩⟩⟩)

noncomputable def c38_1 : Ct := (38, 13, (4, [(0, (.ofNat 0), (.ofNat 60)), (1, (.negSucc 2147483647), (.ofNat 2147483647)), (2, (.ofNat 0), (.ofNat 60)), (3, (.ofNat 0), (.ofNat 60))], [], [.inr (.inl (some 0)), .inl (false, ((.ofNat 7), []))], [zc222,
    zc223,
    zc105,
    .inr (1, .inr (.inl 60))], []),
  [((7, [(4, (.negSucc 2147483647), (.ofNat 2147483647)), (5, (.ofNat 0), (.ofNat 60)), (6, (.ofNat 0), (.ofNat 60))], [], [], [zc231,
    zc223,
    zc105,
    .inr (1, .inr (.inl 60))], []), 0, 0)])
noncomputable def c38_1_e : List Ct := [c39_1, c40_0, c44_0]
noncomputable def c38_1_p0 : PE := (7, [0, 1, 2], (7, [(0, (.ofNat 0), (.ofNat 60)), (1, (.negSucc 2147483647), (.ofNat 2147483647)), (2, (.ofNat 0), (.ofNat 60)), (3, (.ofNat 0), (.ofNat 60)), (4, (.negSucc 2147483647), (.ofNat 2147483647)), (5, (.ofNat 0), (.ofNat 60)), (6, (.ofNat 0), (.ofNat 60))], [], [.inr (.inl (some 0)), .inl (false, ((.ofNat 7), [])), .inl (false, ((.ofNat 0), []))], [zc231,
    zc223,
    zc105,
    .inr (1, .inr (.inl 60))], []), symsL 4 0, some ((.ofNat 121), []), 0, 0)
noncomputable def c38_1_p1 : PE := (7, [0, 1, 2, 3], (9, [(0, (.ofNat 1), (.ofNat 60)), (1, (.negSucc 2147483647), (.ofNat 2147483647)), (2, (.ofNat 0), (.ofNat 60)), (3, (.ofNat 0), (.ofNat 60)), (4, (.ofNat 1), (.ofNat 60)), (5, (.ofNat 42), (.ofNat 47)), (6, (.negSucc 2147483647), (.ofNat 2147483647)), (7, (.ofNat 0), (.ofNat 60)), (8, (.ofNat 1), (.ofNat 60))], [], [.inr (.inl (some 0)), .inl (false, ((.ofNat 7), [])), .inl (false, ((.ofNat 0), [(4, (.ofNat 1))])), .inl (false, ((.ofNat 0), [(5, (.ofNat 1))]))], [zc234,
    zc223,
    zc105,
    .inr (1, .inr (.inl 60))], []), symsL 4 0, some ((.ofNat 121), [(4, (.negSucc 0))]), 0, 0)
noncomputable def c38_1_pts : List PE := [c38_1_p0, c38_1_p1]
set_option maxRecDepth 100000 in
theorem c38_1_k : enCtF c38_1 c38_1_e (c38_1_pts ++ []) (none) (noF, noM, 128, 0, 4) 3000 = true := by decide +kernel
set_option maxRecDepth 100000 in
theorem c38_1_k0 : ptCtF c38_1 c38_1_e (c38_1_pts ++ []) (noF, noM, 128, 0, 4) 3000 c38_1_p0 = true := by decide +kernel
set_option maxRecDepth 100000 in
theorem c38_1_k1 : ptCtF c38_1 c38_1_e (c38_1_pts ++ []) (noF, noM, 128, 0, 4) 3000 c38_1_p1 = true := by decide +kernel
set_option maxRecDepth 100000 in
theorem c38_1_v : ValidC PPk c38_1 := ct_ok fpk ⟨noF_ok, noM_ok⟩ (d := 12) (ext := []) (pts := c38_1_pts) (env := c38_1_e) rfl (List.forall_mem_cons.mpr ⟨⟨c39_1_v, Nat.le_of_ble_eq_true rfl⟩, List.forall_mem_cons.mpr ⟨⟨c40_0_v, Nat.le_of_ble_eq_true rfl⟩, List.forall_mem_cons.mpr ⟨⟨c44_0_v, Nat.le_of_ble_eq_true rfl⟩, fun _ h => (by cases h)⟩⟩⟩) ext_nil (fun q h => (by cases h)) (enF c38_1_k) (List.forall_mem_cons.mpr ⟨ptF c38_1_k0, List.forall_mem_cons.mpr ⟨ptF c38_1_k1, fun _ h => (by cases h)⟩⟩)

noncomputable def c37_1 : Ct := (37, 14, (4, [(0, (.ofNat 0), (.ofNat 60)), (1, (.negSucc 2147483647), (.ofNat 2147483647)), (2, (.ofNat 0), (.ofNat 60)), (3, (.ofNat 0), (.ofNat 60))], [], [.inr (.inl (some 0)), .inl (false, ((.ofNat 7), []))], [zc222,
    zc223,
    zc105,
    .inr (1, .inr (.inl 60))], []),
  [((7, [(4, (.negSucc 2147483647), (.ofNat 2147483647)), (5, (.ofNat 0), (.ofNat 60)), (6, (.ofNat 0), (.ofNat 60))], [], [], [zc231,
    zc223,
    zc105,
    .inr (1, .inr (.inl 60))], []), 0, 0)])
noncomputable def c37_1_e : List Ct := [c38_1, c40_0, c44_0]
noncomputable def c37_1_p0 : PE := (7, [0, 1, 2], (7, [(0, (.ofNat 0), (.ofNat 60)), (1, (.negSucc 2147483647), (.ofNat 2147483647)), (2, (.ofNat 0), (.ofNat 60)), (3, (.ofNat 0), (.ofNat 60)), (4, (.negSucc 2147483647), (.ofNat 2147483647)), (5, (.ofNat 0), (.ofNat 60)), (6, (.ofNat 0), (.ofNat 60))], [], [.inr (.inl (some 0)), .inl (false, ((.ofNat 7), [])), .inl (false, ((.ofNat 0), []))], [zc231,
    zc223,
    zc105,
    .inr (1, .inr (.inl 60))], []), symsL 4 0, some ((.ofNat 121), []), 0, 0)
noncomputable def c37_1_p1 : PE := (7, [0, 1, 2, 3], (9, [(0, (.ofNat 1), (.ofNat 60)), (1, (.negSucc 2147483647), (.ofNat 2147483647)), (2, (.ofNat 0), (.ofNat 60)), (3, (.ofNat 0), (.ofNat 60)), (4, (.ofNat 1), (.ofNat 60)), (5, (.ofNat 43), (.ofNat 45)), (6, (.negSucc 2147483647), (.ofNat 2147483647)), (7, (.ofNat 0), (.ofNat 60)), (8, (.ofNat 1), (.ofNat 60))], [], [.inr (.inl (some 0)), .inl (false, ((.ofNat 7), [])), .inl (false, ((.ofNat 0), [(4, (.ofNat 1))])), .inl (false, ((.ofNat 0), [(5, (.ofNat 1))]))], [zc234,
    zc223,
    zc105,
    .inr (1, .inr (.inl 60))], []), symsL 4 0, some ((.ofNat 121), [(4, (.negSucc 0))]), 0, 0)
noncomputable def c37_1_pts : List PE := [c37_1_p0, c37_1_p1]
set_option maxRecDepth 100000 in
theorem c37_1_k : enCtF c37_1 c37_1_e (c37_1_pts ++ []) (none) (noF, noM, 128, 0, 4) 3000 = true := by decide +kernel
set_option maxRecDepth 100000 in
theorem c37_1_k0 : ptCtF c37_1 c37_1_e (c37_1_pts ++ []) (noF, noM, 128, 0, 4) 3000 c37_1_p0 = true := by decide +kernel
set_option maxRecDepth 100000 in
theorem c37_1_k1 : ptCtF c37_1 c37_1_e (c37_1_pts ++ []) (noF, noM, 128, 0, 4) 3000 c37_1_p1 = true := by decide +kernel
set_option maxRecDepth 100000 in
theorem c37_1_v : ValidC PPk c37_1 := ct_ok fpk ⟨noF_ok, noM_ok⟩ (d := 13) (ext := []) (pts := c37_1_pts) (env := c37_1_e) rfl (List.forall_mem_cons.mpr ⟨⟨c38_1_v, Nat.le_of_ble_eq_true rfl⟩, List.forall_mem_cons.mpr ⟨⟨c40_0_v, Nat.le_of_ble_eq_true rfl⟩, List.forall_mem_cons.mpr ⟨⟨c44_0_v, Nat.le_of_ble_eq_true rfl⟩, fun _ h => (by cases h)⟩⟩⟩) ext_nil (fun q h => (by cases h)) (enF c37_1_k) (List.forall_mem_cons.mpr ⟨ptF c37_1_k0, List.forall_mem_cons.mpr ⟨ptF c37_1_k1, fun _ h => (by cases h)⟩⟩)

noncomputable def c36_1 : Ct := (36, 15, (4, [(0, (.ofNat 0), (.ofNat 60)), (1, (.negSucc 2147483647), (.ofNat 2147483647)), (2, (.ofNat 0), (.ofNat 60)), (3, (.ofNat 0), (.ofNat 60))], [], [.inr (.inl (some 0)), .inl (false, ((.ofNat 7), []))], [zc222,
    zc223,
    zc105,
    .inr (1, .inr (.inl 60))], []),
  [((7, [(4, (.negSucc 2147483647), (.ofNat 2147483647)), (5, (.ofNat 0), (.ofNat 60)), (6, (.ofNat 0), (.ofNat 60))], [], [], [zc231,
    zc223,
    zc105,
    .inr (1, .inr (.inl 60))], []), 0, 0)])
noncomputable def c36_1_e : List Ct := [c37_1, c40_0, c44_0]
noncomputable def c36_1_pts : List PE := []
set_option maxRecDepth 100000 in
theorem c36_1_k : enCtF c36_1 c36_1_e (c36_1_pts ++ []) (none) noH 3000 = true := by decide +kernel
set_option maxRecDepth 100000 in
theorem c36_1_v : ValidC PPk c36_1 := ct_ok fpk noH_ok (d := 14) (ext := []) (pts := c36_1_pts) (env := c36_1_e) rfl (List.forall_mem_cons.mpr ⟨⟨c37_1_v, Nat.le_of_ble_eq_true rfl⟩, List.forall_mem_cons.mpr ⟨⟨c40_0_v, Nat.le_of_ble_eq_true rfl⟩, List.forall_mem_cons.mpr ⟨⟨c44_0_v, Nat.le_of_ble_eq_true rfl⟩, fun _ h => (by cases h)⟩⟩⟩) ext_nil (fun q h => (by cases h)) (enF c36_1_k) (fun _ h => (by cases h))

noncomputable def c35_1 : Ct := (35, 16, (4, [(0, (.ofNat 0), (.ofNat 60)), (1, (.negSucc 2147483647), (.ofNat 2147483647)), (2, (.ofNat 0), (.ofNat 60)), (3, (.ofNat 0), (.ofNat 60))], [], [.inr (.inl (some 0)), .inl (false, ((.ofNat 7), []))], [zc222,
    zc223,
    zc105,
    .inr (1, .inr (.inl 60))], []),
  [((7, [(4, (.negSucc 2147483647), (.ofNat 2147483647)), (5, (.ofNat 0), (.ofNat 60)), (6, (.ofNat 0), (.ofNat 60))], [], [], [zc231,
    zc223,
    zc105,
    .inr (1, .inr (.inl 60))], []), 0, 0)])
noncomputable def c35_1_e : List Ct := [c36_1, c40_0, c44_0]
noncomputable def c35_1_p0 : PE := (7, [0, 1, 2], (8, [(0, (.ofNat 0), (.ofNat 60)), (1, (.negSucc 2147483647), (.ofNat 2147483647)), (2, (.ofNat 0), (.ofNat 60)), (3, (.ofNat 0), (.ofNat 60)), (4, (.ofNat 0), (.ofNat 60)), (5, (.negSucc 2147483647), (.ofNat 2147483647)), (6, (.ofNat 0), (.ofNat 60)), (7, (.ofNat 0), (.ofNat 60))], [], [.inr (.inl (some 0)), .inl (false, ((.ofNat 7), [])), .inl (false, ((.ofNat 0), [(4, (.ofNat 1))]))], [zc235,
    zc223,
    zc105,
    .inr (1, .inr (.inl 60))], []), symsL 4 0, some ((.ofNat 121), [(4, (.negSucc 0))]), 0, 0)
noncomputable def c35_1_pts : List PE := [c35_1_p0]
set_option maxRecDepth 100000 in
theorem c35_1_k : enCtF c35_1 c35_1_e (c35_1_pts ++ []) (none) (noF, noM, 128, 0, 4) 3000 = true := by decide +kernel
set_option maxRecDepth 100000 in
theorem c35_1_k0 : ptCtF c35_1 c35_1_e (c35_1_pts ++ []) (noF, noM, 128, 0, 4) 3000 c35_1_p0 = true := by decide +kernel
set_option maxRecDepth 100000 in
theorem c35_1_v : ValidC PPk c35_1 := ct_ok fpk ⟨noF_ok, noM_ok⟩ (d := 15) (ext := []) (pts := c35_1_pts) (env := c35_1_e) rfl (List.forall_mem_cons.mpr ⟨⟨c36_1_v, Nat.le_of_ble_eq_true rfl⟩, List.forall_mem_cons.mpr ⟨⟨c40_0_v, Nat.le_of_ble_eq_true rfl⟩, List.forall_mem_cons.mpr ⟨⟨c44_0_v, Nat.le_of_ble_eq_true rfl⟩, fun _ h => (by cases h)⟩⟩⟩) ext_nil (fun q h => (by cases h)) (enF c35_1_k) (List.forall_mem_cons.mpr ⟨ptF c35_1_k0, fun _ h => (by cases h)⟩)

noncomputable def c34_1 : Ct := (34, 17, (4, [(0, (.ofNat 0), (.ofNat 60)), (1, (.negSucc 2147483647), (.ofNat 2147483647)), (2, (.ofNat 0), (.ofNat 60)), (3, (.ofNat 0), (.ofNat 60))], [], [.inr (.inl (some 0)), .inl (false, ((.ofNat 7), []))], [zc222,
    zc223,
    zc105,
    .inr (1, .inr (.inl 60))], []),
  [((7, [(4, (.negSucc 2147483647), (.ofNat 2147483647)), (5, (.ofNat 0), (.ofNat 60)), (6, (.ofNat 0), (.ofNat 60))], [], [], [zc231,
    zc223,
    zc105,
    .inr (1, .inr (.inl 60))], []), 0, 0)])
noncomputable def c34_1_e : List Ct := [c35_1, c40_0, c44_0]
noncomputable def c34_1_p0 : PE := (7, [0, 1, 2], (8, [(0, (.ofNat 0), (.ofNat 60)), (1, (.negSucc 2147483647), (.ofNat 2147483647)), (2, (.ofNat 0), (.ofNat 60)), (3, (.ofNat 0), (.ofNat 60)), (4, (.ofNat 0), (.ofNat 60)), (5, (.negSucc 2147483647), (.ofNat 2147483647)), (6, (.ofNat 0), (.ofNat 60)), (7, (.ofNat 0), (.ofNat 60))], [], [.inr (.inl (some 0)), .inl (false, ((.ofNat 7), [])), .inl (false, ((.ofNat 0), [(4, (.ofNat 1))]))], [zc235,
    zc223,
    zc105,
    .inr (1, .inr (.inl 60))], []), symsL 4 0, some ((.ofNat 121), [(4, (.negSucc 0))]), 0, 0)
noncomputable def c34_1_pts : List PE := [c34_1_p0]
set_option maxRecDepth 100000 in
theorem c34_1_k : enCtF c34_1 c34_1_e (c34_1_pts ++ []) (none) (noF, noM, 128, 0, 4) 3000 = true := by decide +kernel
set_option maxRecDepth 100000 in
theorem c34_1_k0 : ptCtF c34_1 c34_1_e (c34_1_pts ++ []) (noF, noM, 128, 0, 4) 3000 c34_1_p0 = true := by decide +kernel
set_option maxRecDepth 100000 in
theorem c34_1_v : ValidC PPk c34_1 := ct_ok fpk ⟨noF_ok, noM_ok⟩ (d := 16) (ext := []) (pts := c34_1_pts) (env := c34_1_e) rfl (List.forall_mem_cons.mpr ⟨⟨c35_1_v, Nat.le_of_ble_eq_true rfl⟩, List.forall_mem_cons.mpr ⟨⟨c40_0_v, Nat.le_of_ble_eq_true rfl⟩, List.forall_mem_cons.mpr ⟨⟨c44_0_v, Nat.le_of_ble_eq_true rfl⟩, fun _ h => (by cases h)⟩⟩⟩) ext_nil (fun q h => (by cases h)) (enF c34_1_k) (List.forall_mem_cons.mpr ⟨ptF c34_1_k0, fun _ h => (by cases h)⟩)

noncomputable def c45_2 : Ct := (45, 18, (4, [(0, (.ofNat 0), (.ofNat 60)), (1, (.negSucc 2147483647), (.ofNat 2147483647)), (2, (.ofNat 0), (.ofNat 60)), (3, (.ofNat 0), (.ofNat 60))], [((.ofNat 1), [(0, (.negSucc 0)), (2, (.ofNat 1))])], [.inr (.inl (some 0)), .inl (false, ((.ofNat 6), []))], [zc222,
    zc223,
    zc105,
    .inr (1, .inr (.inl 60))], []),
  [((7, [(4, (.negSucc 2147483647), (.ofNat 2147483647)), (5, (.ofNat 0), (.ofNat 60)), (6, (.ofNat 0), (.ofNat 60))], [], [], [zc231,
    zc223,
    zc105,
    .inr (1, .inr (.inl 60))], []), 0, 0)])
noncomputable def c45_2_e : List Ct := [c34_1, c40_0, c43_0]
noncomputable def c45_2_pts : List PE := []
set_option maxRecDepth 100000 in
theorem c45_2_k : enCtF c45_2 c45_2_e (c45_2_pts ++ []) (none) noH 3000 = true := by decide +kernel
set_option maxRecDepth 100000 in
theorem c45_2_v : ValidC PPk c45_2 := ct_ok fpk noH_ok (d := 17) (ext := []) (pts := c45_2_pts) (env := c45_2_e) rfl (List.forall_mem_cons.mpr ⟨⟨c34_1_v, Nat.le_of_ble_eq_true rfl⟩, List.forall_mem_cons.mpr ⟨⟨c40_0_v, Nat.le_of_ble_eq_true rfl⟩, List.forall_mem_cons.mpr ⟨⟨c43_0_v, Nat.le_of_ble_eq_true rfl⟩, fun _ h => (by cases h)⟩⟩⟩) ext_nil (fun q h => (by cases h)) (enF c45_2_k) (fun _ h => (by cases h))

noncomputable def c41_4 : Ct := (41, 19, (5, [(0, (.negSucc 2147483647), (.ofNat 2147483647)), (1, (.ofNat 0), (.ofNat 60)), (2, (.negSucc 2147483647), (.ofNat 2147483647)), (3, (.ofNat 0), (.ofNat 60)), (4, (.ofNat 0), (.ofNat 60))], [((.ofNat 1), [(1, (.negSucc 0)), (3, (.ofNat 1))])], [.inr (.inl (some 0)), .inl (false, ((.ofNat 0), [(0, (.ofNat 1))])), .inl (false, ((.ofNat 6), []))], [zc229,
    zc223,
    zc105,
    .inr (1, .inr (.inl 60))], []),
  [((8, [(5, (.negSucc 2147483647), (.ofNat 2147483647)), (6, (.ofNat 0), (.ofNat 60)), (7, (.ofNat 0), (.ofNat 60))], [], [], [zc232,
    zc223,
    zc105,
    .inr (1, .inr (.inl 60))], []), 0, 0)])
noncomputable def c41_4_e : List Ct := [c42_0, c43_0, c44_0, c45_2]
noncomputable def c41_4_pts : List PE := []
set_option maxRecDepth 100000 in
theorem c41_4_k : enCtF c41_4 c41_4_e (c41_4_pts ++ []) (none) noH 3000 = true := by decide +kernel
set_option maxRecDepth 100000 in
theorem c41_4_v : ValidC PPk c41_4 := ct_ok fpk noH_ok (d := 18) (ext := []) (pts := c41_4_pts) (env := c41_4_e) rfl (List.forall_mem_cons.mpr ⟨⟨c42_0_v, Nat.le_of_ble_eq_true rfl⟩, List.forall_mem_cons.mpr ⟨⟨c43_0_v, Nat.le_of_ble_eq_true rfl⟩, List.forall_mem_cons.mpr ⟨⟨c44_0_v, Nat.le_of_ble_eq_true rfl⟩, List.forall_mem_cons.mpr ⟨⟨c45_2_v, Nat.le_of_ble_eq_true rfl⟩, fun _ h => (by cases h)⟩⟩⟩⟩) ext_nil (fun q h => (by cases h)) (enF c41_4_k) (fun _ h => (by cases h))

noncomputable def c41_5 : Ct := (41, 2, (6, [(0, (.ofNat 0), (.ofNat 60)), (1, (.negSucc 2147483647), (.ofNat 2147483647)), (2, (.ofNat 0), (.ofNat 60)), (3, (.ofNat 0), (.ofNat 60))], [], [.inr (.inl (some 0)), .inl (false, ((.negSucc 0), [])), .inl (false, ((.ofNat 6), []))], [zc222,
    zc227,
    zc156,
    .inr (1, .inr (.inl 60))], []),
  [((7, [(6, (.negSucc 2147483647), (.ofNat 2147483647))], [], [], [zc228,
    zc227,
    zc156,
    .inr (1, .inr (.inl 60))], []), 0, 0)])
noncomputable def c41_5_e : List Ct := [c43_0]
noncomputable def c41_5_pts : List PE := []
set_option maxRecDepth 100000 in
theorem c41_5_k : enCtF c41_5 c41_5_e (c41_5_pts ++ []) (none) noH 3000 = true := by decide +kernel
set_option maxRecDepth 100000 in
theorem c41_5_v : ValidC PPk c41_5 := ct_ok fpk noH_ok (d := 1) (ext := []) (pts := c41_5_pts) (env := c41_5_e) rfl (List.forall_mem_cons.mpr ⟨⟨c43_0_v, Nat.le_of_ble_eq_true rfl⟩, fun _ h => (by cases h)⟩) ext_nil (fun q h => (by cases h)) (enF c41_5_k) (fun _ h => (by cases h))

noncomputable def c39_2 : Ct := (39, 20, (4, [(0, (.ofNat 0), (.ofNat 60)), (1, (.negSucc 2147483647), (.ofNat 2147483647)), (2, (.ofNat 0), (.ofNat 60)), (3, (.ofNat 0), (.ofNat 60))], [], [.inr (.inl (some 0)), .inl (false, ((.ofNat 6), []))], [zc222,
    zc223,
    zc105,
    .inr (1, .inr (.inl 60))], []),
  [((7, [(4, (.negSucc 2147483647), (.ofNat 2147483647)), (5, (.ofNat 0), (.ofNat 60)), (6, (.ofNat 0), (.ofNat 60))], [], [], [zc231,
    zc223,
    zc105,
    .inr (1, .inr (.inl 60))], []), 0, 0)])
noncomputable def c39_2_e : List Ct := [c40_0, c41_4, c41_5, c44_0]
noncomputable def c39_2_p0 : PE := (13, [0, 1, 2, 3, 4], (7, [(0, (.ofNat 1), (.ofNat 60)), (1, (.negSucc 0), (.negSucc 0)), (2, (.ofNat 0), (.ofNat 60)), (3, (.ofNat 0), (.ofNat 60)), (4, (.ofNat 0), (.ofNat 127)), (5, (.ofNat 0), (.ofNat 60)), (6, (.ofNat 0), (.ofNat 59))], [((.ofNat 1), [(0, (.negSucc 0)), (6, (.ofNat 1))])], [.inr (.inl (some 0)), .inl (false, ((.ofNat 6), [])), .inl (false, ((.ofNat 0), [(2, (.ofNat 1))])), .inl (false, ((.ofNat 0), [(4, (.ofNat 1))])), .inl (false, ((.ofNat 0), [(5, (.ofNat 1))]))], [zc225,
    zc223,
    zc105,
    .inr (1, .inr (.inl 60))], []), symsL 4 0, some ((.ofNat 182), [(5, (.negSucc 0))]), 0, 0)
noncomputable def c39_2_p1 : PE := (13, [0, 1, 2, 3, 4], (6, [(0, (.ofNat 0), (.ofNat 60)), (1, (.negSucc 2147483647), (.ofNat 2147483647)), (2, (.ofNat 0), (.ofNat 60)), (3, (.ofNat 0), (.ofNat 60)), (4, (.ofNat 0), (.ofNat 60)), (5, (.ofNat 0), (.ofNat 60))], [], [.inr (.inl (some 0)), .inl (false, ((.ofNat 6), [])), .inl (false, ((.ofNat 0), [(2, (.ofNat 1))])), .inl (false, ((.negSucc 0), [])), .inl (false, ((.ofNat 0), [(4, (.ofNat 1))]))], [zc224,
    zc223,
    zc105,
    .inr (1, .inr (.inl 60))], []), symsL 4 0, some ((.ofNat 182), [(4, (.negSucc 0))]), 0, 0)
noncomputable def c39_2_p2 : PE := (71, [0, 1, 2, 3, 4, 5], (10, [(0, (.ofNat 0), (.ofNat 60)), (1, (.negSucc 2147483647), (.ofNat 2147483647)), (2, (.ofNat 0), (.ofNat 60)), (3, (.ofNat 0), (.ofNat 60)), (4, (.negSucc 0), (.ofNat 127)), (5, (.ofNat 0), (.ofNat 60)), (6, (.negSucc 0), (.ofNat 59)), (7, (.negSucc 2147483647), (.ofNat 2147483647)), (8, (.ofNat 0), (.ofNat 60)), (9, (.ofNat 0), (.ofNat 60))], [], [.inr (.inl (some 0)), .inl (false, ((.ofNat 6), [])), .inl (false, ((.ofNat 0), [(2, (.ofNat 1))])), .inl (false, ((.ofNat 0), [(4, (.ofNat 1))])), .inl (false, ((.ofNat 0), [(5, (.ofNat 1))])), .inl (false, ((.ofNat 0), [(6, (.ofNat 1))]))], [zc233,
    zc223,
    zc105,
    .inr (1, .inr (.inl 60))], []), symsL 4 0, some ((.ofNat 62), [(6, (.ofNat 1))]), 0, 0)
noncomputable def c39_2_pts : List PE := [c39_2_p0, c39_2_p1, c39_2_p2]
set_option maxRecDepth 100000 in
theorem c39_2_k : enCtF c39_2 c39_2_e (c39_2_pts ++ []) (none) (noF, noM, 2361183241434822615040, 0, 4) 3000 = true := by decide +kernel
set_option maxRecDepth 100000 in
theorem c39_2_k0 : ptCtF c39_2 c39_2_e (c39_2_pts ++ []) (noF, noM, 2361183241434822615040, 0, 4) 3000 c39_2_p0 = true := by decide +kernel
set_option maxRecDepth 100000 in
theorem c39_2_k1 : ptCtF c39_2 c39_2_e (c39_2_pts ++ []) (noF, noM, 2361183241434822615040, 0, 4) 3000 c39_2_p1 = true := by decide +kernel
set_option maxRecDepth 100000 in
theorem c39_2_k2 : ptCtF c39_2 c39_2_e (c39_2_pts ++ []) (noF, noM, 2361183241434822615040, 0, 4) 3000 c39_2_p2 = true := by decide +kernel
set_option maxRecDepth 100000 in
theorem c39_2_v : ValidC PPk c39_2 := ct_ok fpk ⟨noF_ok, noM_ok⟩ (d := 19) (ext := []) (pts := c39_2_pts) (env := c39_2_e) rfl (List.forall_mem_cons.mpr ⟨⟨c40_0_v, Nat.le_of_ble_eq_true rfl⟩, List.forall_mem_cons.mpr ⟨⟨c41_4_v, Nat.le_of_ble_eq_true rfl⟩, List.forall_mem_cons.mpr ⟨⟨c41_5_v, Nat.le_of_ble_eq_true rfl⟩, List.forall_mem_cons.mpr ⟨⟨c44_0_v, Nat.le_of_ble_eq_true rfl⟩, fun _ h => (by cases h)⟩⟩⟩⟩) ext_nil (fun q h => (by cases h)) (enF c39_2_k) (List.forall_mem_cons.mpr ⟨ptF c39_2_k0, List.forall_mem_cons.mpr ⟨ptF c39_2_k1, List.forall_mem_cons.mpr ⟨ptF c39_2_k2, fun _ h => (by cases h)⟩⟩⟩)

noncomputable def c38_2 : Ct := (38, 21, (4, [(0, (.ofNat 0), (.ofNat 60)), (1, (.negSucc 2147483647), (.ofNat 2147483647)), (2, (.ofNat 0), (.ofNat 60)), (3, (.ofNat 0), (.ofNat 60))], [], [.inr (.inl (some 0)), .inl (false, ((.ofNat 6), []))], [zc222,
    zc223,
    zc105,
    .inr (1, .inr (.inl 60))], []),
  [((7, [(4, (.negSucc 2147483647), (.ofNat 2147483647)), (5, (.ofNat 0), (.ofNat 60)), (6, (.ofNat 0), (.ofNat 60))], [], [], [zc231,
    zc223,
    zc105,
    .inr (1, .inr (.inl 60))], []), 0, 0)])
noncomputable def c38_2_e : List Ct := [c39_2, c40_0, c44_0]
noncomputable def c38_2_p0 : PE := (7, [0, 1, 2], (7, [(0, (.ofNat 0), (.ofNat 60)), (1, (.negSucc 2147483647), (.ofNat 2147483647)), (2, (.ofNat 0), (.ofNat 60)), (3, (.ofNat 0), (.ofNat 60)), (4, (.negSucc 2147483647), (.ofNat 2147483647)), (5, (.ofNat 0), (.ofNat 60)), (6, (.ofNat 0), (.ofNat 60))], [], [.inr (.inl (some 0)), .inl (false, ((.ofNat 6), [])), .inl (false, ((.ofNat 0), []))], [zc231,
    zc223,
    zc105,
    .inr (1, .inr (.inl 60))], []), symsL 4 0, some ((.ofNat 121), []), 0, 0)
noncomputable def c38_2_p1 : PE := (7, [0, 1, 2, 3], (9, [(0, (.ofNat 1), (.ofNat 60)), (1, (.negSucc 2147483647), (.ofNat 2147483647)), (2, (.ofNat 0), (.ofNat 60)), (3, (.ofNat 0), (.ofNat 60)), (4, (.ofNat 1), (.ofNat 60)), (5, (.ofNat 42), (.ofNat 47)), (6, (.negSucc 2147483647), (.ofNat 2147483647)), (7, (.ofNat 0), (.ofNat 60)), (8, (.ofNat 1), (.ofNat 60))], [], [.inr (.inl (some 0)), .inl (false, ((.ofNat 6), [])), .inl (false, ((.ofNat 0), [(4, (.ofNat 1))])), .inl (false, ((.ofNat 0), [(5, (.ofNat 1))]))], [zc234,
    zc223,
    zc105,
    .inr (1, .inr (.inl 60))], []), symsL 4 0, some ((.ofNat 121), [(4, (.negSucc 0))]), 0, 0)
noncomputable def c38_2_pts : List PE := [c38_2_p0, c38_2_p1]
set_option maxRecDepth 100000 in
theorem c38_2_k : enCtF c38_2 c38_2_e (c38_2_pts ++ []) (none) (noF, noM, 128, 0, 4) 3000 = true := by decide +kernel
set_option maxRecDepth 100000 in
theorem c38_2_k0 : ptCtF c38_2 c38_2_e (c38_2_pts ++ []) (noF, noM, 128, 0, 4) 3000 c38_2_p0 = true := by decide +kernel
set_option maxRecDepth 100000 in
theorem c38_2_k1 : ptCtF c38_2 c38_2_e (c38_2_pts ++ []) (noF, noM, 128, 0, 4) 3000 c38_2_p1 = true := by decide +kernel
set_option maxRecDepth 100000 in
theorem c38_2_v : ValidC PPk c38_2 := ct_ok fpk ⟨noF_ok, noM_ok⟩ (d := 20) (ext := []) (pts := c38_2_pts) (env := c38_2_e) rfl (List.forall_mem_cons.mpr ⟨⟨c39_2_v, Nat.le_of_ble_eq_true rfl⟩, List.forall_mem_cons.mpr ⟨⟨c40_0_v, Nat.le_of_ble_eq_true rfl⟩, List.forall_mem_cons.mpr ⟨⟨c44_0_v, Nat.le_of_ble_eq_true rfl⟩, fun _ h => (by cases h)⟩⟩⟩) ext_nil (fun q h => (by cases h)) (enF c38_2_k) (List.forall_mem_cons.mpr ⟨ptF c38_2_k0, List.forall_mem_cons.mpr ⟨ptF c38_2_k1, fun _ h => (by cases h)⟩⟩)

noncomputable def c37_2 : Ct := (37, 22, (4, [(0, (.ofNat 0), (.ofNat 60)), (1, (.negSucc 2147483647), (.ofNat 2147483647)), (2, (.ofNat 0), (.ofNat 60)), (3, (.ofNat 0), (.ofNat 60))], [], [.inr (.inl (some 0)), .inl (false, ((.ofNat 6), []))], [zc222,
    zc223,
    zc105,
    .inr (1, .inr (.inl 60))], []),
  [((7, [(4, (.negSucc 2147483647), (.ofNat 2147483647)), (5, (.ofNat 0), (.ofNat 60)), (6, (.ofNat 0), (.ofNat 60))], [], [], [zc231,
    zc223,
    zc105,
    .inr (1, .inr (.inl 60))], []), 0, 0)])
noncomputable def c37_2_e : List Ct := [c38_2, c40_0, c44_0]
noncomputable def c37_2_p0 : PE := (7, [0, 1, 2], (7, [(0, (.ofNat 0), (.ofNat 60)), (1, (.negSucc 2147483647), (.ofNat 2147483647)), (2, (.ofNat 0), (.ofNat 60)), (3, (.ofNat 0), (.ofNat 60)), (4, (.negSucc 2147483647), (.ofNat 2147483647)), (5, (.ofNat 0), (.ofNat 60)), (6, (.ofNat 0), (.ofNat 60))], [], [.inr (.inl (some 0)), .inl (false, ((.ofNat 6), [])), .inl (false, ((.ofNat 0), []))], [zc231,
    zc223,
    zc105,
    .inr (1, .inr (.inl 60))], []), symsL 4 0, some ((.ofNat 121), []), 0, 0)
noncomputable def c37_2_p1 : PE := (7, [0, 1, 2, 3], (9, [(0, (.ofNat 1), (.ofNat 60)), (1, (.negSucc 2147483647), (.ofNat 2147483647)), (2, (.ofNat 0), (.ofNat 60)), (3, (.ofNat 0), (.ofNat 60)), (4, (.ofNat 1), (.ofNat 60)), (5, (.ofNat 43), (.ofNat 45)), (6, (.negSucc 2147483647), (.ofNat 2147483647)), (7, (.ofNat 0), (.ofNat 60)), (8, (.ofNat 1), (.ofNat 60))], [], [.inr (.inl (some 0)), .inl (false, ((.ofNat 6), [])), .inl (false, ((.ofNat 0), [(4, (.ofNat 1))])), .inl (false, ((.ofNat 0), [(5, (.ofNat 1))]))], [zc234,
    zc223,
    zc105,
    .inr (1, .inr (.inl 60))], []), symsL 4 0, some ((.ofNat 121), [(4, (.negSucc 0))]), 0, 0)
noncomputable def c37_2_pts : List PE := [c37_2_p0, c37_2_p1]
set_option maxRecDepth 100000 in
theorem c37_2_k : enCtF c37_2 c37_2_e (c37_2_pts ++ []) (none) (noF, noM, 128, 0, 4) 3000 = true := by decide +kernel
set_option maxRecDepth 100000 in
theorem c37_2_k0 : ptCtF c37_2 c37_2_e (c37_2_pts ++ []) (noF, noM, 128, 0, 4) 3000 c37_2_p0 = true := by decide +kernel
set_option maxRecDepth 100000 in
theorem c37_2_k1 : ptCtF c37_2 c37_2_e (c37_2_pts ++ []) (noF, noM, 128, 0, 4) 3000 c37_2_p1 = true := by decide +kernel
set_option maxRecDepth 100000 in
theorem c37_2_v : ValidC PPk c37_2 := ct_ok fpk ⟨noF_ok, noM_ok⟩ (d := 21) (ext := []) (pts := c37_2_pts) (env := c37_2_e) rfl (List.forall_mem_cons.mpr ⟨⟨c38_2_v, Nat.le_of_ble_eq_true rfl⟩, List.forall_mem_cons.mpr ⟨⟨c40_0_v, Nat.le_of_ble_eq_true rfl⟩, List.forall_mem_cons.mpr ⟨⟨c44_0_v, Nat.le_of_ble_eq_true rfl⟩, fun _ h => (by cases h)⟩⟩⟩) ext_nil (fun q h => (by cases h)) (enF c37_2_k) (List.forall_mem_cons.mpr ⟨ptF c37_2_k0, List.forall_mem_cons.mpr ⟨ptF c37_2_k1, fun _ h => (by cases h)⟩⟩)

noncomputable def c36_2 : Ct := (36, 23, (4, [(0, (.ofNat 0), (.ofNat 60)), (1, (.negSucc 2147483647), (.ofNat 2147483647)), (2, (.ofNat 0), (.ofNat 60)), (3, (.ofNat 0), (.ofNat 60))], [], [.inr (.inl (some 0)), .inl (false, ((.ofNat 6), []))], [zc222,
    zc223,
    zc105,
    .inr (1, .inr (.inl 60))], []),
  [((7, [(4, (.negSucc 2147483647), (.ofNat 2147483647)), (5, (.ofNat 0), (.ofNat 60)), (6, (.ofNat 0), (.ofNat 60))], [], [], [zc231,
    zc223,
    zc105,
    .inr (1, .inr (.inl 60))], []), 0, 0)])
noncomputable def c36_2_e : List Ct := [c37_2, c40_0, c44_0]
noncomputable def c36_2_pts : List PE := []
set_option maxRecDepth 100000 in
theorem c36_2_k : enCtF c36_2 c36_2_e (c36_2_pts ++ []) (none) noH 3000 = true := by decide +kernel
set_option maxRecDepth 100000 in
theorem c36_2_v : ValidC PPk c36_2 := ct_ok fpk noH_ok (d := 22) (ext := []) (pts := c36_2_pts) (env := c36_2_e) rfl (List.forall_mem_cons.mpr ⟨⟨c37_2_v, Nat.le_of_ble_eq_true rfl⟩, List.forall_mem_cons.mpr ⟨⟨c40_0_v, Nat.le_of_ble_eq_true rfl⟩, List.forall_mem_cons.mpr ⟨⟨c44_0_v, Nat.le_of_ble_eq_true rfl⟩, fun _ h => (by cases h)⟩⟩⟩) ext_nil (fun q h => (by cases h)) (enF c36_2_k) (fun _ h => (by cases h))

noncomputable def c35_2 : Ct := (35, 24, (4, [(0, (.ofNat 0), (.ofNat 60)), (1, (.negSucc 2147483647), (.ofNat 2147483647)), (2, (.ofNat 0), (.ofNat 60)), (3, (.ofNat 0), (.ofNat 60))], [], [.inr (.inl (some 0)), .inl (false, ((.ofNat 6), []))], [zc222,
    zc223,
    zc105,
    .inr (1, .inr (.inl 60))], []),
  [((7, [(4, (.negSucc 2147483647), (.ofNat 2147483647)), (5, (.ofNat 0), (.ofNat 60)), (6, (.ofNat 0), (.ofNat 60))], [], [], [zc231,
    zc223,
    zc105,
    .inr (1, .inr (.inl 60))], []), 0, 0)])
noncomputable def c35_2_e : List Ct := [c36_2, c40_0, c44_0]
noncomputable def c35_2_p0 : PE := (7, [0, 1, 2], (8, [(0, (.ofNat 0), (.ofNat 60)), (1, (.negSucc 2147483647), (.ofNat 2147483647)), (2, (.ofNat 0), (.ofNat 60)), (3, (.ofNat 0), (.ofNat 60)), (4, (.ofNat 0), (.ofNat 60)), (5, (.negSucc 2147483647), (.ofNat 2147483647)), (6, (.ofNat 0), (.ofNat 60)), (7, (.ofNat 0), (.ofNat 60))], [], [.inr (.inl (some 0)), .inl (false, ((.ofNat 6), [])), .inl (false, ((.ofNat 0), [(4, (.ofNat 1))]))], [zc235,
    zc223,
    zc105,
    .inr (1, .inr (.inl 60))], []), symsL 4 0, some ((.ofNat 121), [(4, (.negSucc 0))]), 0, 0)
noncomputable def c35_2_pts : List PE := [c35_2_p0]
set_option maxRecDepth 100000 in
theorem c35_2_k : enCtF c35_2 c35_2_e (c35_2_pts ++ []) (none) (noF, noM, 128, 0, 4) 3000 = true := by decide +kernel
set_option maxRecDepth 100000 in
theorem c35_2_k0 : ptCtF c35_2 c35_2_e (c35_2_pts ++ []) (noF, noM, 128, 0, 4) 3000 c35_2_p0 = true := by decide +kernel
set_option maxRecDepth 100000 in
theorem c35_2_v : ValidC PPk c35_2 := ct_ok fpk ⟨noF_ok, noM_ok⟩ (d := 23) (ext := []) (pts := c35_2_pts) (env := c35_2_e) rfl (List.forall_mem_cons.mpr ⟨⟨c36_2_v, Nat.le_of_ble_eq_true rfl⟩, List.forall_mem_cons.mpr ⟨⟨c40_0_v, Nat.le_of_ble_eq_true rfl⟩, List.forall_mem_cons.mpr ⟨⟨c44_0_v, Nat.le_of_ble_eq_true rfl⟩, fun _ h => (by cases h)⟩⟩⟩) ext_nil (fun q h => (by cases h)) (enF c35_2_k) (List.forall_mem_cons.mpr ⟨ptF c35_2_k0, fun _ h => (by cases h)⟩)

noncomputable def c34_2 : Ct := (34, 25, (4, [(0, (.ofNat 0), (.ofNat 60)), (1, (.negSucc 2147483647), (.ofNat 2147483647)), (2, (.ofNat 0), (.ofNat 60)), (3, (.ofNat 0), (.ofNat 60))], [], [.inr (.inl (some 0)), .inl (false, ((.ofNat 6), []))], [zc222,
    zc223,
    zc105,
    .inr (1, .inr (.inl 60))], []),
  [((7, [(4, (.negSucc 2147483647), (.ofNat 2147483647)), (5, (.ofNat 0), (.ofNat 60)), (6, (.ofNat 0), (.ofNat 60))], [], [], [zc231,
    zc223,
    zc105,
    .inr (1, .inr (.inl 60))], []), 0, 0)])
noncomputable def c34_2_e : List Ct := [c35_2, c40_0, c44_0]
noncomputable def c34_2_p0 : PE := (7, [0, 1, 2], (8, [(0, (.ofNat 0), (.ofNat 60)), (1, (.negSucc 2147483647), (.ofNat 2147483647)), (2, (.ofNat 0), (.ofNat 60)), (3, (.ofNat 0), (.ofNat 60)), (4, (.ofNat 0), (.ofNat 60)), (5, (.negSucc 2147483647), (.ofNat 2147483647)), (6, (.ofNat 0), (.ofNat 60)), (7, (.ofNat 0), (.ofNat 60))], [], [.inr (.inl (some 0)), .inl (false, ((.ofNat 6), [])), .inl (false, ((.ofNat 0), [(4, (.ofNat 1))]))], [zc235,
    zc223,
    zc105,
    .inr (1, .inr (.inl 60))], []), symsL 4 0, some ((.ofNat 121), [(4, (.negSucc 0))]), 0, 0)
noncomputable def c34_2_pts : List PE := [c34_2_p0]
set_option maxRecDepth 100000 in
theorem c34_2_k : enCtF c34_2 c34_2_e (c34_2_pts ++ []) (none) (noF, noM, 128, 0, 4) 3000 = true := by decide +kernel
set_option maxRecDepth 100000 in
theorem c34_2_k0 : ptCtF c34_2 c34_2_e (c34_2_pts ++ []) (noF, noM, 128, 0, 4) 3000 c34_2_p0 = true := by decide +kernel
set_option maxRecDepth 100000 in
theorem c34_2_v : ValidC PPk c34_2 := ct_ok fpk ⟨noF_ok, noM_ok⟩ (d := 24) (ext := []) (pts := c34_2_pts) (env := c34_2_e) rfl (List.forall_mem_cons.mpr ⟨⟨c35_2_v, Nat.le_of_ble_eq_true rfl⟩, List.forall_mem_cons.mpr ⟨⟨c40_0_v, Nat.le_of_ble_eq_true rfl⟩, List.forall_mem_cons.mpr ⟨⟨c44_0_v, Nat.le_of_ble_eq_true rfl⟩, fun _ h => (by cases h)⟩⟩⟩) ext_nil (fun q h => (by cases h)) (enF c34_2_k) (List.forall_mem_cons.mpr ⟨ptF c34_2_k0, fun _ h => (by cases h)⟩)

noncomputable def c45_3 : Ct := (45, 26, (4, [(0, (.ofNat 0), (.ofNat 60)), (1, (.negSucc 2147483647), (.ofNat 2147483647)), (2, (.ofNat 0), (.ofNat 60)), (3, (.ofNat 0), (.ofNat 60))], [((.ofNat 1), [(0, (.negSucc 0)), (2, (.ofNat 1))])], [.inr (.inl (some 0)), .inl (false, ((.ofNat 5), []))], [zc222,
    zc223,
    zc105,
    .inr (1, .inr (.inl 60))], []),
  [((7, [(4, (.negSucc 2147483647), (.ofNat 2147483647)), (5, (.ofNat 0), (.ofNat 60)), (6, (.ofNat 0), (.ofNat 60))], [], [], [zc231,
    zc223,
    zc105,
    .inr (1, .inr (.inl 60))], []), 0, 0)])
noncomputable def c45_3_e : List Ct := [c34_2, c40_0, c43_0]
noncomputable def c45_3_pts : List PE := []
set_option maxRecDepth 100000 in
theorem c45_3_k : enCtF c45_3 c45_3_e (c45_3_pts ++ []) (none) noH 3000 = true := by decide +kernel
set_option maxRecDepth 100000 in
theorem c45_3_v : ValidC PPk c45_3 := ct_ok fpk noH_ok (d := 25) (ext := []) (pts := c45_3_pts) (env := c45_3_e) rfl (List.forall_mem_cons.mpr ⟨⟨c34_2_v, Nat.le_of_ble_eq_true rfl⟩, List.forall_mem_cons.mpr ⟨⟨c40_0_v, Nat.le_of_ble_eq_true rfl⟩, List.forall_mem_cons.mpr ⟨⟨c43_0_v, Nat.le_of_ble_eq_true rfl⟩, fun _ h => (by cases h)⟩⟩⟩) ext_nil (fun q h => (by cases h)) (enF c45_3_k) (fun _ h => (by cases h))

noncomputable def c41_6 : Ct := (41, 27, (5, [(0, (.negSucc 2147483647), (.ofNat 2147483647)), (1, (.ofNat 0), (.ofNat 60)), (2, (.negSucc 2147483647), (.ofNat 2147483647)), (3, (.ofNat 0), (.ofNat 60)), (4, (.ofNat 0), (.ofNat 60))], [((.ofNat 1), [(1, (.negSucc 0)), (3, (.ofNat 1))])], [.inr (.inl (some 0)), .inl (false, ((.ofNat 0), [(0, (.ofNat 1))])), .inl (false, ((.ofNat 5), []))], [zc229,
    zc223,
    zc105,
    .inr (1, .inr (.inl 60))], []),
  [((8, [(5, (.negSucc 2147483647), (.ofNat 2147483647)), (6, (.ofNat 0), (.ofNat 60)), (7, (.ofNat 0), (.ofNat 60))], [], [], [zc232,
    zc223,
    zc105,
    .inr (1, .inr (.inl 60))], []), 0, 0)])
noncomputable def c41_6_e : List Ct := [c42_0, c43_0, c44_0, c45_3]
noncomputable def c41_6_pts : List PE := []
set_option maxRecDepth 100000 in
theorem c41_6_k : enCtF c41_6 c41_6_e (c41_6_pts ++ []) (none) noH 3000 = true := by decide +kernel
set_option maxRecDepth 100000 in
theorem c41_6_v : ValidC PPk c41_6 := ct_ok fpk noH_ok (d := 26) (ext := []) (pts := c41_6_pts) (env := c41_6_e) rfl (List.forall_mem_cons.mpr ⟨⟨c42_0_v, Nat.le_of_ble_eq_true rfl⟩, List.forall_mem_cons.mpr ⟨⟨c43_0_v, Nat.le_of_ble_eq_true rfl⟩, List.forall_mem_cons.mpr ⟨⟨c44_0_v, Nat.le_of_ble_eq_true rfl⟩, List.forall_mem_cons.mpr ⟨⟨c45_3_v, Nat.le_of_ble_eq_true rfl⟩, fun _ h => (by cases h)⟩⟩⟩⟩) ext_nil (fun q h => (by cases h)) (enF c41_6_k) (fun _ h => (by cases h))

noncomputable def c41_7 : Ct := (41, 2, (6, [(0, (.ofNat 0), (.ofNat 60)), (1, (.negSucc 2147483647), (.ofNat 2147483647)), (2, (.ofNat 0), (.ofNat 60)), (3, (.ofNat 0), (.ofNat 60))], [], [.inr (.inl (some 0)), .inl (false, ((.negSucc 0), [])), .inl (false, ((.ofNat 5), []))], [zc222,
    zc227,
    zc156,
    .inr (1, .inr (.inl 60))], []),
  [((7, [(6, (.negSucc 2147483647), (.ofNat 2147483647))], [], [], [zc228,
    zc227,
    zc156,
    .inr (1, .inr (.inl 60))], []), 0, 0)])
noncomputable def c41_7_e : List Ct := [c43_0]
noncomputable def c41_7_pts : List PE := []
set_option maxRecDepth 100000 in
theorem c41_7_k : enCtF c41_7 c41_7_e (c41_7_pts ++ []) (none) noH 3000 = true := by decide +kernel
set_option maxRecDepth 100000 in
theorem c41_7_v : ValidC PPk c41_7 := ct_ok fpk noH_ok (d := 1) (ext := []) (pts := c41_7_pts) (env := c41_7_e) rfl (List.forall_mem_cons.mpr ⟨⟨c43_0_v, Nat.le_of_ble_eq_true rfl⟩, fun _ h => (by cases h)⟩) ext_nil (fun q h => (by cases h)) (enF c41_7_k) (fun _ h => (by cases h))

noncomputable def c39_3 : Ct := (39, 28, (4, [(0, (.ofNat 0), (.ofNat 60)), (1, (.negSucc 2147483647), (.ofNat 2147483647)), (2, (.ofNat 0), (.ofNat 60)), (3, (.ofNat 0), (.ofNat 60))], [], [.inr (.inl (some 0)), .inl (false, ((.ofNat 5), []))], [zc222,
    zc223,
    zc105,
    .inr (1, .inr (.inl 60))], []),
  [((7, [(4, (.negSucc 2147483647), (.ofNat 2147483647)), (5, (.ofNat 0), (.ofNat 60)), (6, (.ofNat 0), (.ofNat 60))], [], [], [zc231,
    zc223,
    zc105,
    .inr (1, .inr (.inl 60))], []), 0, 0)])
noncomputable def c39_3_e : List Ct := [c40_0, c41_6, c41_7, c44_0]
noncomputable def c39_3_p0 : PE := (13, [0, 1, 2, 3, 4], (7, [(0, (.ofNat 1), (.ofNat 60)), (1, (.negSucc 0), (.negSucc 0)), (2, (.ofNat 0), (.ofNat 60)), (3, (.ofNat 0), (.ofNat 60)), (4, (.ofNat 0), (.ofNat 127)), (5, (.ofNat 0), (.ofNat 60)), (6, (.ofNat 0), (.ofNat 59))], [((.ofNat 1), [(0, (.negSucc 0)), (6, (.ofNat 1))])], [.inr (.inl (some 0)), .inl (false, ((.ofNat 5), [])), .inl (false, ((.ofNat 0), [(2, (.ofNat 1))])), .inl (false, ((.ofNat 0), [(4, (.ofNat 1))])), .inl (false, ((.ofNat 0), [(5, (.ofNat 1))]))], [zc225,
    zc223,
    zc105,
    .inr (1, .inr (.inl 60))], []), symsL 4 0, some ((.ofNat 182), [(5, (.negSucc 0))]), 0, 0)
noncomputable def c39_3_p1 : PE := (13, [0, 1, 2, 3, 4], (6, [(0, (.ofNat 0), (.ofNat 60)), (1, (.negSucc 2147483647), (.ofNat 2147483647)), (2, (.ofNat 0), (.ofNat 60)), (3, (.ofNat 0), (.ofNat 60)), (4, (.ofNat 0), (.ofNat 60)), (5, (.ofNat 0), (.ofNat 60))], [], [.inr (.inl (some 0)), .inl (false, ((.ofNat 5), [])), .inl (false, ((.ofNat 0), [(2, (.ofNat 1))])), .inl (false, ((.negSucc 0), [])), .inl (false, ((.ofNat 0), [(4, (.ofNat 1))]))], [zc224,
    zc223,
    zc105,
    .inr (1, .inr (.inl 60))], []), symsL 4 0, some ((.ofNat 182), [(4, (.negSucc 0))]), 0, 0)
noncomputable def c39_3_p2 : PE := (71, [0, 1, 2, 3, 4, 5], (10, [(0, (.ofNat 0), (.ofNat 60)), (1, (.negSucc 2147483647), (.ofNat 2147483647)), (2, (.ofNat 0), (.ofNat 60)), (3, (.ofNat 0), (.ofNat 60)), (4, (.negSucc 0), (.ofNat 127)), (5, (.ofNat 0), (.ofNat 60)), (6, (.negSucc 0), (.ofNat 59)), (7, (.negSucc 2147483647), (.ofNat 2147483647)), (8, (.ofNat 0), (.ofNat 60)), (9, (.ofNat 0), (.ofNat 60))], [], [.inr (.inl (some 0)), .inl (false, ((.ofNat 5), [])), .inl (false, ((.ofNat 0), [(2, (.ofNat 1))])), .inl (false, ((.ofNat 0), [(4, (.ofNat 1))])), .inl (false, ((.ofNat 0), [(5, (.ofNat 1))])), .inl (false, ((.ofNat 0), [(6, (.ofNat 1))]))], [zc233,
    zc223,
    zc105,
    .inr (1, .inr (.inl 60))], []), symsL 4 0, some ((.ofNat 62), [(6, (.ofNat 1))]), 0, 0)
noncomputable def c39_3_pts : List PE := [c39_3_p0, c39_3_p1, c39_3_p2]
set_option maxRecDepth 100000 in
theorem c39_3_k : enCtF c39_3 c39_3_e (c39_3_pts ++ []) (none) (noF, noM, 2361183241434822615040, 0, 4) 3000 = true := by decide +kernel
set_option maxRecDepth 100000 in
theorem c39_3_k0 : ptCtF c39_3 c39_3_e (c39_3_pts ++ []) (noF, noM, 2361183241434822615040, 0, 4) 3000 c39_3_p0 = true := by decide +kernel
set_option maxRecDepth 100000 in
theorem c39_3_k1 : ptCtF c39_3 c39_3_e (c39_3_pts ++ []) (noF, noM, 2361183241434822615040, 0, 4) 3000 c39_3_p1 = true := by decide +kernel
set_option maxRecDepth 100000 in
theorem c39_3_k2 : ptCtF c39_3 c39_3_e (c39_3_pts ++ []) (noF, noM, 2361183241434822615040, 0, 4) 3000 c39_3_p2 = true := by decide +kernel
set_option maxRecDepth 100000 in
theorem c39_3_v : ValidC PPk c39_3 := ct_ok fpk ⟨noF_ok, noM_ok⟩ (d := 27) (ext := []) (pts := c39_3_pts) (env := c39_3_e) rfl (List.forall_mem_cons.mpr ⟨⟨c40_0_v, Nat.le_of_ble_eq_true rfl⟩, List.forall_mem_cons.mpr ⟨⟨c41_6_v, Nat.le_of_ble_eq_true rfl⟩, List.forall_mem_cons.mpr ⟨⟨c41_7_v, Nat.le_of_ble_eq_true rfl⟩, List.forall_mem_cons.mpr ⟨⟨c44_0_v, Nat.le_of_ble_eq_true rfl⟩, fun _ h => (by cases h)⟩⟩⟩⟩) ext_nil (fun q h => (by cases h)) (enF c39_3_k) (List.forall_mem_cons.mpr ⟨ptF c39_3_k0, List.forall_mem_cons.mpr ⟨ptF c39_3_k1, List.forall_mem_cons.mpr ⟨ptF c39_3_k2, fun _ h => (by cases h)⟩⟩⟩)

noncomputable def c38_3 : Ct := (38, 29, (4, [(0, (.ofNat 0), (.ofNat 60)), (1, (.negSucc 2147483647), (.ofNat 2147483647)), (2, (.ofNat 0), (.ofNat 60)), (3, (.ofNat 0), (.ofNat 60))], [], [.inr (.inl (some 0)), .inl (false, ((.ofNat 5), []))], [zc222,
    zc223,
    zc105,
    .inr (1, .inr (.inl 60))], []),
  [((7, [(4, (.negSucc 2147483647), (.ofNat 2147483647)), (5, (.ofNat 0), (.ofNat 60)), (6, (.ofNat 0), (.ofNat 60))], [], [], [zc231,
    zc223,
    zc105,
    .inr (1, .inr (.inl 60))], []), 0, 0)])
noncomputable def c38_3_e : List Ct := [c39_3, c40_0, c44_0]
noncomputable def c38_3_p0 : PE := (7, [0, 1, 2], (7, [(0, (.ofNat 0), (.ofNat 60)), (1, (.negSucc 2147483647), (.ofNat 2147483647)), (2, (.ofNat 0), (.ofNat 60)), (3, (.ofNat 0), (.ofNat 60)), (4, (.negSucc 2147483647), (.ofNat 2147483647)), (5, (.ofNat 0), (.ofNat 60)), (6, (.ofNat 0), (.ofNat 60))], [], [.inr (.inl (some 0)), .inl (false, ((.ofNat 5), [])), .inl (false, ((.ofNat 0), []))], [zc231,
    zc223,
    zc105,
    .inr (1, .inr (.inl 60))], []), symsL 4 0, some ((.ofNat 121), []), 0, 0)
noncomputable def c38_3_p1 : PE := (7, [0, 1, 2, 3], (9, [(0, (.ofNat 1), (.ofNat 60)), (1, (.negSucc 2147483647), (.ofNat 2147483647)), (2, (.ofNat 0), (.ofNat 60)), (3, (.ofNat 0), (.ofNat 60)), (4, (.ofNat 1), (.ofNat 60)), (5, (.ofNat 42), (.ofNat 47)), (6, (.negSucc 2147483647), (.ofNat 2147483647)), (7, (.ofNat 0), (.ofNat 60)), (8, (.ofNat 1), (.ofNat 60))], [], [.inr (.inl (some 0)), .inl (false, ((.ofNat 5), [])), .inl (false, ((.ofNat 0), [(4, (.ofNat 1))])), .inl (false, ((.ofNat 0), [(5, (.ofNat 1))]))], [zc234,
    zc223,
    zc105,
    .inr (1, .inr (.inl 60))], []), symsL 4 0, some ((.ofNat 121), [(4, (.negSucc 0))]), 0, 0)
noncomputable def c38_3_pts : List PE := [c38_3_p0, c38_3_p1]
set_option maxRecDepth 100000 in
theorem c38_3_k : enCtF c38_3 c38_3_e (c38_3_pts ++ []) (none) (noF, noM, 128, 0, 4) 3000 = true := by decide +kernel
set_option maxRecDepth 100000 in
theorem c38_3_k0 : ptCtF c38_3 c38_3_e (c38_3_pts ++ []) (noF, noM, 128, 0, 4) 3000 c38_3_p0 = true := by decide +kernel
set_option maxRecDepth 100000 in
theorem c38_3_k1 : ptCtF c38_3 c38_3_e (c38_3_pts ++ []) (noF, noM, 128, 0, 4) 3000 c38_3_p1 = true := by decide +kernel
set_option maxRecDepth 100000 in
theorem c38_3_v : ValidC PPk c38_3 := ct_ok fpk ⟨noF_ok, noM_ok⟩ (d := 28) (ext := []) (pts := c38_3_pts) (env := c38_3_e) rfl (List.forall_mem_cons.mpr ⟨⟨c39_3_v, Nat.le_of_ble_eq_true rfl⟩, List.forall_mem_cons.mpr ⟨⟨c40_0_v, Nat.le_of_ble_eq_true rfl⟩, List.forall_mem_cons.mpr ⟨⟨c44_0_v, Nat.le_of_ble_eq_true rfl⟩, fun _ h => (by cases h)⟩⟩⟩) ext_nil (fun q h => (by cases h)) (enF c38_3_k) (List.forall_mem_cons.mpr ⟨ptF c38_3_k0, List.forall_mem_cons.mpr ⟨ptF c38_3_k1, fun _ h => (by cases h)⟩⟩)

noncomputable def c37_3 : Ct := (37, 30, (4, [(0, (.ofNat 0), (.ofNat 60)), (1, (.negSucc 2147483647), (.ofNat 2147483647)), (2, (.ofNat 0), (.ofNat 60)), (3, (.ofNat 0), (.ofNat 60))], [], [.inr (.inl (some 0)), .inl (false, ((.ofNat 5), []))], [zc222,
    zc223,
    zc105,
    .inr (1, .inr (.inl 60))], []),
  [((7, [(4, (.negSucc 2147483647), (.ofNat 2147483647)), (5, (.ofNat 0), (.ofNat 60)), (6, (.ofNat 0), (.ofNat 60))], [], [], [zc231,
    zc223,
    zc105,
    .inr (1, .inr (.inl 60))], []), 0, 0)])
noncomputable def c37_3_e : List Ct := [c38_3, c40_0, c44_0]
noncomputable def c37_3_p0 : PE := (7, [0, 1, 2], (7, [(0, (.ofNat 0), (.ofNat 60)), (1, (.negSucc 2147483647), (.ofNat 2147483647)), (2, (.ofNat 0), (.ofNat 60)), (3, (.ofNat 0), (.ofNat 60)), (4, (.negSucc 2147483647), (.ofNat 2147483647)), (5, (.ofNat 0), (.ofNat 60)), (6, (.ofNat 0), (.ofNat 60))], [], [.inr (.inl (some 0)), .inl (false, ((.ofNat 5), [])), .inl (false, ((.ofNat 0), []))], [zc231,
    zc223,
    zc105,
    .inr (1, .inr (.inl 60))], []), symsL 4 0, some ((.ofNat 121), []), 0, 0)
noncomputable def c37_3_p1 : PE := (7, [0, 1, 2, 3], (9, [(0, (.ofNat 1), (.ofNat 60)), (1, (.negSucc 2147483647), (.ofNat 2147483647)), (2, (.ofNat 0), (.ofNat 60)), (3, (.ofNat 0), (.ofNat 60)), (4, (.ofNat 1), (.ofNat 60)), (5, (.ofNat 43), (.ofNat 45)), (6, (.negSucc 2147483647), (.ofNat 2147483647)), (7, (.ofNat 0), (.ofNat 60)), (8, (.ofNat 1), (.ofNat 60))], [], [.inr (.inl (some 0)), .inl (false, ((.ofNat 5), [])), .inl (false, ((.ofNat 0), [(4, (.ofNat 1))])), .inl (false, ((.ofNat 0), [(5, (.ofNat 1))]))], [zc234,
    zc223,
    zc105,
    .inr (1, .inr (.inl 60))], []), symsL 4 0, some ((.ofNat 121), [(4, (.negSucc 0))]), 0, 0)
noncomputable def c37_3_pts : List PE := [c37_3_p0, c37_3_p1]
set_option maxRecDepth 100000 in
theorem c37_3_k : enCtF c37_3 c37_3_e (c37_3_pts ++ []) (none) (noF, noM, 128, 0, 4) 3000 = true := by decide +kernel
set_option maxRecDepth 100000 in
theorem c37_3_k0 : ptCtF c37_3 c37_3_e (c37_3_pts ++ []) (noF, noM, 128, 0, 4) 3000 c37_3_p0 = true := by decide +kernel
set_option maxRecDepth 100000 in
theorem c37_3_k1 : ptCtF c37_3 c37_3_e (c37_3_pts ++ []) (noF, noM, 128, 0, 4) 3000 c37_3_p1 = true := by decide +kernel
set_option maxRecDepth 100000 in
theorem c37_3_v : ValidC PPk c37_3 := ct_ok fpk ⟨noF_ok, noM_ok⟩ (d := 29) (ext := []) (pts := c37_3_pts) (env := c37_3_e) rfl (List.forall_mem_cons.mpr ⟨⟨c38_3_v, Nat.le_of_ble_eq_true rfl⟩, List.forall_mem_cons.mpr ⟨⟨c40_0_v, Nat.le_of_ble_eq_true rfl⟩, List.forall_mem_cons.mpr ⟨⟨c44_0_v, Nat.le_of_ble_eq_true rfl⟩, fun _ h => (by cases h)⟩⟩⟩) ext_nil (fun q h => (by cases h)) (enF c37_3_k) (List.forall_mem_cons.mpr ⟨ptF c37_3_k0, List.forall_mem_cons.mpr ⟨ptF c37_3_k1, fun _ h => (by cases h)⟩⟩)

noncomputable def c36_3 : Ct := (36, 31, (4, [(0, (.ofNat 0), (.ofNat 60)), (1, (.negSucc 2147483647), (.ofNat 2147483647)), (2, (.ofNat 0), (.ofNat 60)), (3, (.ofNat 0), (.ofNat 60))], [], [.inr (.inl (some 0)), .inl (false, ((.ofNat 5), []))], [zc222,
    zc223,
    zc105,
    .inr (1, .inr (.inl 60))], []),
  [((7, [(4, (.negSucc 2147483647), (.ofNat 2147483647)), (5, (.ofNat 0), (.ofNat 60)), (6, (.ofNat 0), (.ofNat 60))], [], [], [zc231,
    zc223,
    zc105,
    .inr (1, .inr (.inl 60))], []), 0, 0)])
noncomputable def c36_3_e : List Ct := [c37_3, c40_0, c44_0]
noncomputable def c36_3_pts : List PE := []
set_option maxRecDepth 100000 in
theorem c36_3_k : enCtF c36_3 c36_3_e (c36_3_pts ++ []) (none) noH 3000 = true := by decide +kernel
set_option maxRecDepth 100000 in
theorem c36_3_v : ValidC PPk c36_3 := ct_ok fpk noH_ok (d := 30) (ext := []) (pts := c36_3_pts) (env := c36_3_e) rfl (List.forall_mem_cons.mpr ⟨⟨c37_3_v, Nat.le_of_ble_eq_true rfl⟩, List.forall_mem_cons.mpr ⟨⟨c40_0_v, Nat.le_of_ble_eq_true rfl⟩, List.forall_mem_cons.mpr ⟨⟨c44_0_v, Nat.le_of_ble_eq_true rfl⟩, fun _ h => (by cases h)⟩⟩⟩) ext_nil (fun q h => (by cases h)) (enF c36_3_k) (fun _ h => (by cases h))

noncomputable def c35_3 : Ct := (35, 32, (4, [(0, (.ofNat 0), (.ofNat 60)), (1, (.negSucc 2147483647), (.ofNat 2147483647)), (2, (.ofNat 0), (.ofNat 60)), (3, (.ofNat 0), (.ofNat 60))], [], [.inr (.inl (some 0)), .inl (false, ((.ofNat 5), []))], [zc222,
    zc223,
    zc105,
    .inr (1, .inr (.inl 60))], []),
  [((7, [(4, (.negSucc 2147483647), (.ofNat 2147483647)), (5, (.ofNat 0), (.ofNat 60)), (6, (.ofNat 0), (.ofNat 60))], [], [], [zc231,
    zc223,
    zc105,
    .inr (1, .inr (.inl 60))], []), 0, 0)])
noncomputable def c35_3_e : List Ct := [c36_3, c40_0, c44_0]
noncomputable def c35_3_p0 : PE := (7, [0, 1, 2], (8, [(0, (.ofNat 0), (.ofNat 60)), (1, (.negSucc 2147483647), (.ofNat 2147483647)), (2, (.ofNat 0), (.ofNat 60)), (3, (.ofNat 0), (.ofNat 60)), (4, (.ofNat 0), (.ofNat 60)), (5, (.negSucc 2147483647), (.ofNat 2147483647)), (6, (.ofNat 0), (.ofNat 60)), (7, (.ofNat 0), (.ofNat 60))], [], [.inr (.inl (some 0)), .inl (false, ((.ofNat 5), [])), .inl (false, ((.ofNat 0), [(4, (.ofNat 1))]))], [zc235,
    zc223,
    zc105,
    .inr (1, .inr (.inl 60))], []), symsL 4 0, some ((.ofNat 121), [(4, (.negSucc 0))]), 0, 0)
noncomputable def c35_3_pts : List PE := [c35_3_p0]
set_option maxRecDepth 100000 in
theorem c35_3_k : enCtF c35_3 c35_3_e (c35_3_pts ++ []) (none) (noF, noM, 128, 0, 4) 3000 = true := by decide +kernel
set_option maxRecDepth 100000 in
theorem c35_3_k0 : ptCtF c35_3 c35_3_e (c35_3_pts ++ []) (noF, noM, 128, 0, 4) 3000 c35_3_p0 = true := by decide +kernel
set_option maxRecDepth 100000 in
theorem c35_3_v : ValidC PPk c35_3 := ct_ok fpk ⟨noF_ok, noM_ok⟩ (d := 31) (ext := []) (pts := c35_3_pts) (env := c35_3_e) rfl (List.forall_mem_cons.mpr ⟨⟨c36_3_v, Nat.le_of_ble_eq_true rfl⟩, List.forall_mem_cons.mpr ⟨⟨c40_0_v, Nat.le_of_ble_eq_true rfl⟩, List.forall_mem_cons.mpr ⟨⟨c44_0_v, Nat.le_of_ble_eq_true rfl⟩, fun _ h => (by cases h)⟩⟩⟩) ext_nil (fun q h => (by cases h)) (enF c35_3_k) (List.forall_mem_cons.mpr ⟨ptF c35_3_k0, fun _ h => (by cases h)⟩)

noncomputable def c34_3 : Ct := (34, 33, (4, [(0, (.ofNat 0), (.ofNat 60)), (1, (.negSucc 2147483647), (.ofNat 2147483647)), (2, (.ofNat 0), (.ofNat 60)), (3, (.ofNat 0), (.ofNat 60))], [], [.inr (.inl (some 0)), .inl (false, ((.ofNat 5), []))], [zc222,
    zc223,
    zc105,
    .inr (1, .inr (.inl 60))], []),
  [((7, [(4, (.negSucc 2147483647), (.ofNat 2147483647)), (5, (.ofNat 0), (.ofNat 60)), (6, (.ofNat 0), (.ofNat 60))], [], [], [zc231,
    zc223,
    zc105,
    .inr (1, .inr (.inl 60))], []), 0, 0)])
noncomputable def c34_3_e : List Ct := [c35_3, c40_0, c44_0]
noncomputable def c34_3_p0 : PE := (7, [0, 1, 2], (8, [(0, (.ofNat 0), (.ofNat 60)), (1, (.negSucc 2147483647), (.ofNat 2147483647)), (2, (.ofNat 0), (.ofNat 60)), (3, (.ofNat 0), (.ofNat 60)), (4, (.ofNat 0), (.ofNat 60)), (5, (.negSucc 2147483647), (.ofNat 2147483647)), (6, (.ofNat 0), (.ofNat 60)), (7, (.ofNat 0), (.ofNat 60))], [], [.inr (.inl (some 0)), .inl (false, ((.ofNat 5), [])), .inl (false, ((.ofNat 0), [(4, (.ofNat 1))]))], [zc235,
    zc223,
    zc105,
    .inr (1, .inr (.inl 60))], []), symsL 4 0, some ((.ofNat 121), [(4, (.negSucc 0))]), 0, 0)
noncomputable def c34_3_pts : List PE := [c34_3_p0]
set_option maxRecDepth 100000 in
theorem c34_3_k : enCtF c34_3 c34_3_e (c34_3_pts ++ []) (none) (noF, noM, 128, 0, 4) 3000 = true := by decide +kernel
set_option maxRecDepth 100000 in
theorem c34_3_k0 : ptCtF c34_3 c34_3_e (c34_3_pts ++ []) (noF, noM, 128, 0, 4) 3000 c34_3_p0 = true := by decide +kernel
set_option maxRecDepth 100000 in
theorem c34_3_v : ValidC PPk c34_3 := ct_ok fpk ⟨noF_ok, noM_ok⟩ (d := 32) (ext := []) (pts := c34_3_pts) (env := c34_3_e) rfl (List.forall_mem_cons.mpr ⟨⟨c35_3_v, Nat.le_of_ble_eq_true rfl⟩, List.forall_mem_cons.mpr ⟨⟨c40_0_v, Nat.le_of_ble_eq_true rfl⟩, List.forall_mem_cons.mpr ⟨⟨c44_0_v, Nat.le_of_ble_eq_true rfl⟩, fun _ h => (by cases h)⟩⟩⟩) ext_nil (fun q h => (by cases h)) (enF c34_3_k) (List.forall_mem_cons.mpr ⟨ptF c34_3_k0, fun _ h => (by cases h)⟩)

noncomputable def c45_4 : Ct := (45, 34, (4, [(0, (.ofNat 0), (.ofNat 60)), (1, (.negSucc 2147483647), (.ofNat 2147483647)), (2, (.ofNat 0), (.ofNat 60)), (3, (.ofNat 0), (.ofNat 60))], [((.ofNat 1), [(0, (.negSucc 0)), (2, (.ofNat 1))])], [.inr (.inl (some 0)), .inl (false, ((.ofNat 4), []))], [zc222,
    zc223,
    zc105,
    .inr (1, .inr (.inl 60))], []),
  [((7, [(4, (.negSucc 2147483647), (.ofNat 2147483647)), (5, (.ofNat 0), (.ofNat 60)), (6, (.ofNat 0), (.ofNat 60))], [], [], [zc231,
    zc223,
    zc105,
    .inr (1, .inr (.inl 60))], []), 0, 0)])
noncomputable def c45_4_e : List Ct := [c34_3, c40_0, c43_0]
noncomputable def c45_4_pts : List PE := []
set_option maxRecDepth 100000 in
theorem c45_4_k : enCtF c45_4 c45_4_e (c45_4_pts ++ []) (none) noH 3000 = true := by decide +kernel
set_option maxRecDepth 100000 in
theorem c45_4_v : ValidC PPk c45_4 := ct_ok fpk noH_ok (d := 33) (ext := []) (pts := c45_4_pts) (env := c45_4_e) rfl (List.forall_mem_cons.mpr ⟨⟨c34_3_v, Nat.le_of_ble_eq_true rfl⟩, List.forall_mem_cons.mpr ⟨⟨c40_0_v, Nat.le_of_ble_eq_true rfl⟩, List.forall_mem_cons.mpr ⟨⟨c43_0_v, Nat.le_of_ble_eq_true rfl⟩, fun _ h => (by cases h)⟩⟩⟩) ext_nil (fun q h => (by cases h)) (enF c45_4_k) (fun _ h => (by cases h))

noncomputable def c41_8 : Ct := (41, 35, (5, [(0, (.negSucc 2147483647), (.ofNat 2147483647)), (1, (.ofNat 0), (.ofNat 60)), (2, (.negSucc 2147483647), (.ofNat 2147483647)), (3, (.ofNat 0), (.ofNat 60)), (4, (.ofNat 0), (.ofNat 60))], [((.ofNat 1), [(1, (.negSucc 0)), (3, (.ofNat 1))])], [.inr (.inl (some 0)), .inl (false, ((.ofNat 0), [(0, (.ofNat 1))])), .inl (false, ((.ofNat 4), []))], [zc229,
    zc223,
    zc105,
    .inr (1, .inr (.inl 60))], []),
  [((8, [(5, (.negSucc 2147483647), (.ofNat 2147483647)), (6, (.ofNat 0), (.ofNat 60)), (7, (.ofNat 0), (.ofNat 60))], [], [], [zc232,
    zc223,
    zc105,
    .inr (1, .inr (.inl 60))], []), 0, 0)])
noncomputable def c41_8_e : List Ct := [c42_0, c43_0, c44_0, c45_4]
noncomputable def c41_8_pts : List PE := []
set_option maxRecDepth 100000 in
theorem c41_8_k : enCtF c41_8 c41_8_e (c41_8_pts ++ []) (none) noH 3000 = true := by decide +kernel
set_option maxRecDepth 100000 in
theorem c41_8_v : ValidC PPk c41_8 := ct_ok fpk noH_ok (d := 34) (ext := []) (pts := c41_8_pts) (env := c41_8_e) rfl (List.forall_mem_cons.mpr ⟨⟨c42_0_v, Nat.le_of_ble_eq_true rfl⟩, List.forall_mem_cons.mpr ⟨⟨c43_0_v, Nat.le_of_ble_eq_true rfl⟩, List.forall_mem_cons.mpr ⟨⟨c44_0_v, Nat.le_of_ble_eq_true rfl⟩, List.forall_mem_cons.mpr ⟨⟨c45_4_v, Nat.le_of_ble_eq_true rfl⟩, fun _ h => (by cases h)⟩⟩⟩⟩) ext_nil (fun q h => (by cases h)) (enF c41_8_k) (fun _ h => (by cases h))

noncomputable def c41_9 : Ct := (41, 2, (6, [(0, (.ofNat 0), (.ofNat 60)), (1, (.negSucc 2147483647), (.ofNat 2147483647)), (2, (.ofNat 0), (.ofNat 60)), (3, (.ofNat 0), (.ofNat 60))], [], [.inr (.inl (some 0)), .inl (false, ((.negSucc 0), [])), .inl (false, ((.ofNat 4), []))], [zc222,
    zc227,
    zc156,
    .inr (1, .inr (.inl 60))], []),
  [((7, [(6, (.negSucc 2147483647), (.ofNat 2147483647))], [], [], [zc228,
    zc227,
    zc156,
    .inr (1, .inr (.inl 60))], []), 0, 0)])
noncomputable def c41_9_e : List Ct := [c43_0]
noncomputable def c41_9_pts : List PE := []
set_option maxRecDepth 100000 in
theorem c41_9_k : enCtF c41_9 c41_9_e (c41_9_pts ++ []) (none) noH 3000 = true := by decide +kernel
set_option maxRecDepth 100000 in
theorem c41_9_v : ValidC PPk c41_9 := ct_ok fpk noH_ok (d := 1) (ext := []) (pts := c41_9_pts) (env := c41_9_e) rfl (List.forall_mem_cons.mpr ⟨⟨c43_0_v, Nat.le_of_ble_eq_true rfl⟩, fun _ h => (by cases h)⟩) ext_nil (fun q h => (by cases h)) (enF c41_9_k) (fun _ h => (by cases h))

noncomputable def c39_4 : Ct := (39, 36, (4, [(0, (.ofNat 0), (.ofNat 60)), (1, (.negSucc 2147483647), (.ofNat 2147483647)), (2, (.ofNat 0), (.ofNat 60)), (3, (.ofNat 0), (.ofNat 60))], [], [.inr (.inl (some 0)), .inl (false, ((.ofNat 4), []))], [zc222,
    zc223,
    zc105,
    .inr (1, .inr (.inl 60))], []),
  [((7, [(4, (.negSucc 2147483647), (.ofNat 2147483647)), (5, (.ofNat 0), (.ofNat 60)), (6, (.ofNat 0), (.ofNat 60))], [], [], [zc231,
    zc223,
    zc105,
    .inr (1, .inr (.inl 60))], []), 0, 0)])
noncomputable def c39_4_e : List Ct := [c40_0, c41_8, c41_9, c44_0]
noncomputable def c39_4_p0 : PE := (13, [0, 1, 2, 3, 4], (7, [(0, (.ofNat 1), (.ofNat 60)), (1, (.negSucc 0), (.negSucc 0)), (2, (.ofNat 0), (.ofNat 60)), (3, (.ofNat 0), (.ofNat 60)), (4, (.ofNat 0), (.ofNat 127)), (5, (.ofNat 0), (.ofNat 60)), (6, (.ofNat 0), (.ofNat 59))], [((.ofNat 1), [(0, (.negSucc 0)), (6, (.ofNat 1))])], [.inr (.inl (some 0)), .inl (false, ((.ofNat 4), [])), .inl (false, ((.ofNat 0), [(2, (.ofNat 1))])), .inl (false, ((.ofNat 0), [(4, (.ofNat 1))])), .inl (false, ((.ofNat 0), [(5, (.ofNat 1))]))], [zc225,
    zc223,
    zc105,
    .inr (1, .inr (.inl 60))], []), symsL 4 0, some ((.ofNat 182), [(5, (.negSucc 0))]), 0, 0)
noncomputable def c39_4_p1 : PE := (13, [0, 1, 2, 3, 4], (6, [(0, (.ofNat 0), (.ofNat 60)), (1, (.negSucc 2147483647), (.ofNat 2147483647)), (2, (.ofNat 0), (.ofNat 60)), (3, (.ofNat 0), (.ofNat 60)), (4, (.ofNat 0), (.ofNat 60)), (5, (.ofNat 0), (.ofNat 60))], [], [.inr (.inl (some 0)), .inl (false, ((.ofNat 4), [])), .inl (false, ((.ofNat 0), [(2, (.ofNat 1))])), .inl (false, ((.negSucc 0), [])), .inl (false, ((.ofNat 0), [(4, (.ofNat 1))]))], [zc224,
    zc223,
    zc105,
    .inr (1, .inr (.inl 60))], []), symsL 4 0, some ((.ofNat 182), [(4, (.negSucc 0))]), 0, 0)
noncomputable def c39_4_p2 : PE := (71, [0, 1, 2, 3, 4, 5], (10, [(0, (.ofNat 0), (.ofNat 60)), (1, (.negSucc 2147483647), (.ofNat 2147483647)), (2, (.ofNat 0), (.ofNat 60)), (3, (.ofNat 0), (.ofNat 60)), (4, (.negSucc 0), (.ofNat 127)), (5, (.ofNat 0), (.ofNat 60)), (6, (.negSucc 0), (.ofNat 59)), (7, (.negSucc 2147483647), (.ofNat 2147483647)), (8, (.ofNat 0), (.ofNat 60)), (9, (.ofNat 0), (.ofNat 60))], [], [.inr (.inl (some 0)), .inl (false, ((.ofNat 4), [])), .inl (false, ((.ofNat 0), [(2, (.ofNat 1))])), .inl (false, ((.ofNat 0), [(4, (.ofNat 1))])), .inl (false, ((.ofNat 0), [(5, (.ofNat 1))])), .inl (false, ((.ofNat 0), [(6, (.ofNat 1))]))], [zc233,
    zc223,
    zc105,
    .inr (1, .inr (.inl 60))], []), symsL 4 0, some ((.ofNat 62), [(6, (.ofNat 1))]), 0, 0)
noncomputable def c39_4_pts : List PE := [c39_4_p0, c39_4_p1, c39_4_p2]
set_option maxRecDepth 100000 in
theorem c39_4_k : enCtF c39_4 c39_4_e (c39_4_pts ++ []) (none) (noF, noM, 2361183241434822615040, 0, 4) 3000 = true := by decide +kernel
set_option maxRecDepth 100000 in
theorem c39_4_k0 : ptCtF c39_4 c39_4_e (c39_4_pts ++ []) (noF, noM, 2361183241434822615040, 0, 4) 3000 c39_4_p0 = true := by decide +kernel
set_option maxRecDepth 100000 in
theorem c39_4_k1 : ptCtF c39_4 c39_4_e (c39_4_pts ++ []) (noF, noM, 2361183241434822615040, 0, 4) 3000 c39_4_p1 = true := by decide +kernel
set_option maxRecDepth 100000 in
theorem c39_4_k2 : ptCtF c39_4 c39_4_e (c39_4_pts ++ []) (noF, noM, 2361183241434822615040, 0, 4) 3000 c39_4_p2 = true := by decide +kernel
set_option maxRecDepth 100000 in
theorem c39_4_v : ValidC PPk c39_4 := ct_ok fpk ⟨noF_ok, noM_ok⟩ (d := 35) (ext := []) (pts := c39_4_pts) (env := c39_4_e) rfl (List.forall_mem_cons.mpr ⟨⟨c40_0_v, Nat.le_of_ble_eq_true rfl⟩, List.forall_mem_cons.mpr ⟨⟨c41_8_v, Nat.le_of_ble_eq_true rfl⟩, List.forall_mem_cons.mpr ⟨⟨c41_9_v, Nat.le_of_ble_eq_true rfl⟩, List.forall_mem_cons.mpr ⟨⟨c44_0_v, Nat.le_of_ble_eq_true rfl⟩, fun _ h => (by cases h)⟩⟩⟩⟩) ext_nil (fun q h => (by cases h)) (enF c39_4_k) (List.forall_mem_cons.mpr ⟨ptF c39_4_k0, List.forall_mem_cons.mpr ⟨ptF c39_4_k1, List.forall_mem_cons.mpr ⟨ptF c39_4_k2, fun _ h => (by cases h)⟩⟩⟩)

noncomputable def c38_4 : Ct := (38, 37, (4, [(0, (.ofNat 0), (.ofNat 60)), (1, (.negSucc 2147483647), (.ofNat 2147483647)), (2, (.ofNat 0), (.ofNat 60)), (3, (.ofNat 0), (.ofNat 60))], [], [.inr (.inl (some 0)), .inl (false, ((.ofNat 4), []))], [zc222,
    zc223,
    zc105,
    .inr (1, .inr (.inl 60))], []),
  [((7, [(4, (.negSucc 2147483647), (.ofNat 2147483647)), (5, (.ofNat 0), (.ofNat 60)), (6, (.ofNat 0), (.ofNat 60))], [], [], [zc231,
    zc223,
    zc105,
    .inr (1, .inr (.inl 60))], []), 0, 0)])
noncomputable def c38_4_e : List Ct := [c39_4, c40_0, c44_0]
noncomputable def c38_4_p0 : PE := (7, [0, 1, 2], (7, [(0, (.ofNat 0), (.ofNat 60)), (1, (.negSucc 2147483647), (.ofNat 2147483647)), (2, (.ofNat 0), (.ofNat 60)), (3, (.ofNat 0), (.ofNat 60)), (4, (.negSucc 2147483647), (.ofNat 2147483647)), (5, (.ofNat 0), (.ofNat 60)), (6, (.ofNat 0), (.ofNat 60))], [], [.inr (.inl (some 0)), .inl (false, ((.ofNat 4), [])), .inl (false, ((.ofNat 0), []))], [zc231,
    zc223,
    zc105,
    .inr (1, .inr (.inl 60))], []), symsL 4 0, some ((.ofNat 121), []), 0, 0)
noncomputable def c38_4_p1 : PE := (7, [0, 1, 2, 3], (9, [(0, (.ofNat 1), (.ofNat 60)), (1, (.negSucc 2147483647), (.ofNat 2147483647)), (2, (.ofNat 0), (.ofNat 60)), (3, (.ofNat 0), (.ofNat 60)), (4, (.ofNat 1), (.ofNat 60)), (5, (.ofNat 42), (.ofNat 47)), (6, (.negSucc 2147483647), (.ofNat 2147483647)), (7, (.ofNat 0), (.ofNat 60)), (8, (.ofNat 1), (.ofNat 60))], [], [.inr (.inl (some 0)), .inl (false, ((.ofNat 4), [])), .inl (false, ((.ofNat 0), [(4, (.ofNat 1))])), .inl (false, ((.ofNat 0), [(5, (.ofNat 1))]))], [zc234,
    zc223,
    zc105,
    .inr (1, .inr (.inl 60))], []), symsL 4 0, some ((.ofNat 121), [(4, (.negSucc 0))]), 0, 0)
noncomputable def c38_4_pts : List PE := [c38_4_p0, c38_4_p1]
set_option maxRecDepth 100000 in
theorem c38_4_k : enCtF c38_4 c38_4_e (c38_4_pts ++ []) (none) (noF, noM, 128, 0, 4) 3000 = true := by decide +kernel
set_option maxRecDepth 100000 in
theorem c38_4_k0 : ptCtF c38_4 c38_4_e (c38_4_pts ++ []) (noF, noM, 128, 0, 4) 3000 c38_4_p0 = true := by decide +kernel
set_option maxRecDepth 100000 in
theorem c38_4_k1 : ptCtF c38_4 c38_4_e (c38_4_pts ++ []) (noF, noM, 128, 0, 4) 3000 c38_4_p1 = true := by decide +kernel
set_option maxRecDepth 100000 in
theorem c38_4_v : ValidC PPk c38_4 := ct_ok fpk ⟨noF_ok, noM_ok⟩ (d := 36) (ext := []) (pts := c38_4_pts) (env := c38_4_e) rfl (List.forall_mem_cons.mpr ⟨⟨c39_4_v, Nat.le_of_ble_eq_true rfl⟩, List.forall_mem_cons.mpr ⟨⟨c40_0_v, Nat.le_of_ble_eq_true rfl⟩, List.forall_mem_cons.mpr ⟨⟨c44_0_v, Nat.le_of_ble_eq_true rfl⟩, fun _ h => (by cases h)⟩⟩⟩) ext_nil (fun q h => (by cases h)) (enF c38_4_k) (List.forall_mem_cons.mpr ⟨ptF c38_4_k0, List.forall_mem_cons.mpr ⟨ptF c38_4_k1, fun _ h => (by cases h)⟩⟩)

noncomputable def c37_4 : Ct := (37, 38, (4, [(0, (.ofNat 0), (.ofNat 60)), (1, (.negSucc 2147483647), (.ofNat 2147483647)), (2, (.ofNat 0), (.ofNat 60)), (3, (.ofNat 0), (.ofNat 60))], [], [.inr (.inl (some 0)), .inl (false, ((.ofNat 4), []))], [zc222,
    zc223,
    zc105,
    .inr (1, .inr (.inl 60))], []),
  [((7, [(4, (.negSucc 2147483647), (.ofNat 2147483647)), (5, (.ofNat 0), (.ofNat 60)), (6, (.ofNat 0), (.ofNat 60))], [], [], [zc231,
    zc223,
    zc105,
    .inr (1, .inr (.inl 60))], []), 0, 0)])
noncomputable def c37_4_e : List Ct := [c38_4, c40_0, c44_0]
noncomputable def c37_4_p0 : PE := (7, [0, 1, 2], (7, [(0, (.ofNat 0), (.ofNat 60)), (1, (.negSucc 2147483647), (.ofNat 2147483647)), (2, (.ofNat 0), (.ofNat 60)), (3, (.ofNat 0), (.ofNat 60)), (4, (.negSucc 2147483647), (.ofNat 2147483647)), (5, (.ofNat 0), (.ofNat 60)), (6, (.ofNat 0), (.ofNat 60))], [], [.inr (.inl (some 0)), .inl (false, ((.ofNat 4), [])), .inl (false, ((.ofNat 0), []))], [zc231,
    zc223,
    zc105,
    .inr (1, .inr (.inl 60))], []), symsL 4 0, some ((.ofNat 121), []), 0, 0)
noncomputable def c37_4_p1 : PE := (7, [0, 1, 2, 3], (9, [(0, (.ofNat 1), (.ofNat 60)), (1, (.negSucc 2147483647), (.ofNat 2147483647)), (2, (.ofNat 0), (.ofNat 60)), (3, (.ofNat 0), (.ofNat 60)), (4, (.ofNat 1), (.ofNat 60)), (5, (.ofNat 43), (.ofNat 45)), (6, (.negSucc 2147483647), (.ofNat 2147483647)), (7, (.ofNat 0), (.ofNat 60)), (8, (.ofNat 1), (.ofNat 60))], [], [.inr (.inl (some 0)), .inl (false, ((.ofNat 4), [])), .inl (false, ((.ofNat 0), [(4, (.ofNat 1))])), .inl (false, ((.ofNat 0), [(5, (.ofNat 1))]))], [zc234,
    zc223,
    zc105,
    .inr (1, .inr (.inl 60))], []), symsL 4 0, some ((.ofNat 121), [(4, (.negSucc 0))]), 0, 0)
noncomputable def c37_4_pts : List PE := [c37_4_p0, c37_4_p1]
set_option maxRecDepth 100000 in
theorem c37_4_k : enCtF c37_4 c37_4_e (c37_4_pts ++ []) (none) (noF, noM, 128, 0, 4) 3000 = true := by decide +kernel
set_option maxRecDepth 100000 in
theorem c37_4_k0 : ptCtF c37_4 c37_4_e (c37_4_pts ++ []) (noF, noM, 128, 0, 4) 3000 c37_4_p0 = true := by decide +kernel
set_option maxRecDepth 100000 in
theorem c37_4_k1 : ptCtF c37_4 c37_4_e (c37_4_pts ++ []) (noF, noM, 128, 0, 4) 3000 c37_4_p1 = true := by decide +kernel
set_option maxRecDepth 100000 in
theorem c37_4_v : ValidC PPk c37_4 := ct_ok fpk ⟨noF_ok, noM_ok⟩ (d := 37) (ext := []) (pts := c37_4_pts) (env := c37_4_e) rfl (List.forall_mem_cons.mpr ⟨⟨c38_4_v, Nat.le_of_ble_eq_true rfl⟩, List.forall_mem_cons.mpr ⟨⟨c40_0_v, Nat.le_of_ble_eq_true rfl⟩, List.forall_mem_cons.mpr ⟨⟨c44_0_v, Nat.le_of_ble_eq_true rfl⟩, fun _ h => (by cases h)⟩⟩⟩) ext_nil (fun q h => (by cases h)) (enF c37_4_k) (List.forall_mem_cons.mpr ⟨ptF c37_4_k0, List.forall_mem_cons.mpr ⟨ptF c37_4_k1, fun _ h => (by cases h)⟩⟩)

noncomputable def c36_4 : Ct := (36, 39, (4, [(0, (.ofNat 0), (.ofNat 60)), (1, (.negSucc 2147483647), (.ofNat 2147483647)), (2, (.ofNat 0), (.ofNat 60)), (3, (.ofNat 0), (.ofNat 60))], [], [.inr (.inl (some 0)), .inl (false, ((.ofNat 4), []))], [zc222,
    zc223,
    zc105,
    .inr (1, .inr (.inl 60))], []),
  [((7, [(4, (.negSucc 2147483647), (.ofNat 2147483647)), (5, (.ofNat 0), (.ofNat 60)), (6, (.ofNat 0), (.ofNat 60))], [], [], [zc231,
    zc223,
    zc105,
    .inr (1, .inr (.inl 60))], []), 0, 0)])
noncomputable def c36_4_e : List Ct := [c37_4, c40_0, c44_0]
noncomputable def c36_4_pts : List PE := []
set_option maxRecDepth 100000 in
theorem c36_4_k : enCtF c36_4 c36_4_e (c36_4_pts ++ []) (none) noH 3000 = true := by decide +kernel
set_option maxRecDepth 100000 in
theorem c36_4_v : ValidC PPk c36_4 := ct_ok fpk noH_ok (d := 38) (ext := []) (pts := c36_4_pts) (env := c36_4_e) rfl (List.forall_mem_cons.mpr ⟨⟨c37_4_v, Nat.le_of_ble_eq_true rfl⟩, List.forall_mem_cons.mpr ⟨⟨c40_0_v, Nat.le_of_ble_eq_true rfl⟩, List.forall_mem_cons.mpr ⟨⟨c44_0_v, Nat.le_of_ble_eq_true rfl⟩, fun _ h => (by cases h)⟩⟩⟩) ext_nil (fun q h => (by cases h)) (enF c36_4_k) (fun _ h => (by cases h))

noncomputable def c35_4 : Ct := (35, 40, (4, [(0, (.ofNat 0), (.ofNat 60)), (1, (.negSucc 2147483647), (.ofNat 2147483647)), (2, (.ofNat 0), (.ofNat 60)), (3, (.ofNat 0), (.ofNat 60))], [], [.inr (.inl (some 0)), .inl (false, ((.ofNat 4), []))], [zc222,
    zc223,
    zc105,
    .inr (1, .inr (.inl 60))], []),
  [((7, [(4, (.negSucc 2147483647), (.ofNat 2147483647)), (5, (.ofNat 0), (.ofNat 60)), (6, (.ofNat 0), (.ofNat 60))], [], [], [zc231,
    zc223,
    zc105,
    .inr (1, .inr (.inl 60))], []), 0, 0)])
noncomputable def c35_4_e : List Ct := [c36_4, c40_0, c44_0]
noncomputable def c35_4_p0 : PE := (7, [0, 1, 2], (8, [(0, (.ofNat 0), (.ofNat 60)), (1, (.negSucc 2147483647), (.ofNat 2147483647)), (2, (.ofNat 0), (.ofNat 60)), (3, (.ofNat 0), (.ofNat 60)), (4, (.ofNat 0), (.ofNat 60)), (5, (.negSucc 2147483647), (.ofNat 2147483647)), (6, (.ofNat 0), (.ofNat 60)), (7, (.ofNat 0), (.ofNat 60))], [], [.inr (.inl (some 0)), .inl (false, ((.ofNat 4), [])), .inl (false, ((.ofNat 0), [(4, (.ofNat 1))]))], [zc235,
    zc223,
    zc105,
    .inr (1, .inr (.inl 60))], []), symsL 4 0, some ((.ofNat 121), [(4, (.negSucc 0))]), 0, 0)
noncomputable def c35_4_pts : List PE := [c35_4_p0]
set_option maxRecDepth 100000 in
theorem c35_4_k : enCtF c35_4 c35_4_e (c35_4_pts ++ []) (none) (noF, noM, 128, 0, 4) 3000 = true := by decide +kernel
set_option maxRecDepth 100000 in
theorem c35_4_k0 : ptCtF c35_4 c35_4_e (c35_4_pts ++ []) (noF, noM, 128, 0, 4) 3000 c35_4_p0 = true := by decide +kernel
set_option maxRecDepth 100000 in
theorem c35_4_v : ValidC PPk c35_4 := ct_ok fpk ⟨noF_ok, noM_ok⟩ (d := 39) (ext := []) (pts := c35_4_pts) (env := c35_4_e) rfl (List.forall_mem_cons.mpr ⟨⟨c36_4_v, Nat.le_of_ble_eq_true rfl⟩, List.forall_mem_cons.mpr ⟨⟨c40_0_v, Nat.le_of_ble_eq_true rfl⟩, List.forall_mem_cons.mpr ⟨⟨c44_0_v, Nat.le_of_ble_eq_true rfl⟩, fun _ h => (by cases h)⟩⟩⟩) ext_nil (fun q h => (by cases h)) (enF c35_4_k) (List.forall_mem_cons.mpr ⟨ptF c35_4_k0, fun _ h => (by cases h)⟩)

noncomputable def c34_4 : Ct := (34, 41, (4, [(0, (.ofNat 0), (.ofNat 60)), (1, (.negSucc 2147483647), (.ofNat 2147483647)), (2, (.ofNat 0), (.ofNat 60)), (3, (.ofNat 0), (.ofNat 60))], [], [.inr (.inl (some 0)), .inl (false, ((.ofNat 4), []))], [zc222,
    zc223,
    zc105,
    .inr (1, .inr (.inl 60))], []),
  [((7, [(4, (.negSucc 2147483647), (.ofNat 2147483647)), (5, (.ofNat 0), (.ofNat 60)), (6, (.ofNat 0), (.ofNat 60))], [], [], [zc231,
    zc223,
    zc105,
    .inr (1, .inr (.inl 60))], []), 0, 0)])
noncomputable def c34_4_e : List Ct := [c35_4, c40_0, c44_0]
noncomputable def c34_4_p0 : PE := (7, [0, 1, 2], (8, [(0, (.ofNat 0), (.ofNat 60)), (1, (.negSucc 2147483647), (.ofNat 2147483647)), (2, (.ofNat 0), (.ofNat 60)), (3, (.ofNat 0), (.ofNat 60)), (4, (.ofNat 0), (.ofNat 60)), (5, (.negSucc 2147483647), (.ofNat 2147483647)), (6, (.ofNat 0), (.ofNat 60)), (7, (.ofNat 0), (.ofNat 60))], [], [.inr (.inl (some 0)), .inl (false, ((.ofNat 4), [])), .inl (false, ((.ofNat 0), [(4, (.ofNat 1))]))], [zc235,
    zc223,
    zc105,
    .inr (1, .inr (.inl 60))], []), symsL 4 0, some ((.ofNat 121), [(4, (.negSucc 0))]), 0, 0)
noncomputable def c34_4_pts : List PE := [c34_4_p0]
set_option maxRecDepth 100000 in
theorem c34_4_k : enCtF c34_4 c34_4_e (c34_4_pts ++ []) (none) (noF, noM, 128, 0, 4) 3000 = true := by decide +kernel
set_option maxRecDepth 100000 in
theorem c34_4_k0 : ptCtF c34_4 c34_4_e (c34_4_pts ++ []) (noF, noM, 128, 0, 4) 3000 c34_4_p0 = true := by decide +kernel
set_option maxRecDepth 100000 in
theorem c34_4_v : ValidC PPk c34_4 := ct_ok fpk ⟨noF_ok, noM_ok⟩ (d := 40) (ext := []) (pts := c34_4_pts) (env := c34_4_e) rfl (List.forall_mem_cons.mpr ⟨⟨c35_4_v, Nat.le_of_ble_eq_true rfl⟩, List.forall_mem_cons.mpr ⟨⟨c40_0_v, Nat.le_of_ble_eq_true rfl⟩, List.forall_mem_cons.mpr ⟨⟨c44_0_v, Nat.le_of_ble_eq_true rfl⟩, fun _ h => (by cases h)⟩⟩⟩) ext_nil (fun q h => (by cases h)) (enF c34_4_k) (List.forall_mem_cons.mpr ⟨ptF c34_4_k0, fun _ h => (by cases h)⟩)

noncomputable def c45_5 : Ct := (45, 42, (4, [(0, (.ofNat 0), (.ofNat 60)), (1, (.negSucc 2147483647), (.ofNat 2147483647)), (2, (.ofNat 0), (.ofNat 60)), (3, (.ofNat 0), (.ofNat 60))], [((.ofNat 1), [(0, (.negSucc 0)), (2, (.ofNat 1))])], [.inr (.inl (some 0)), .inl (false, ((.ofNat 3), []))], [zc222,
    zc223,
    zc105,
    .inr (1, .inr (.inl 60))], []),
  [((7, [(4, (.negSucc 2147483647), (.ofNat 2147483647)), (5, (.ofNat 0), (.ofNat 60)), (6, (.ofNat 0), (.ofNat 60))], [], [], [zc231,
    zc223,
    zc105,
    .inr (1, .inr (.inl 60))], []), 0, 0)])
noncomputable def c45_5_e : List Ct := [c34_4, c40_0, c43_0]
noncomputable def c45_5_pts : List PE := []
set_option maxRecDepth 100000 in
theorem c45_5_k : enCtF c45_5 c45_5_e (c45_5_pts ++ []) (none) noH 3000 = true := by decide +kernel
set_option maxRecDepth 100000 in
theorem c45_5_v : ValidC PPk c45_5 := ct_ok fpk noH_ok (d := 41) (ext := []) (pts := c45_5_pts) (env := c45_5_e) rfl (List.forall_mem_cons.mpr ⟨⟨c34_4_v, Nat.le_of_ble_eq_true rfl⟩, List.forall_mem_cons.mpr ⟨⟨c40_0_v, Nat.le_of_ble_eq_true rfl⟩, List.forall_mem_cons.mpr ⟨⟨c43_0_v, Nat.le_of_ble_eq_true rfl⟩, fun _ h => (by cases h)⟩⟩⟩) ext_nil (fun q h => (by cases h)) (enF c45_5_k) (fun _ h => (by cases h))

noncomputable def c41_10 : Ct := (41, 43, (5, [(0, (.negSucc 2147483647), (.ofNat 2147483647)), (1, (.ofNat 0), (.ofNat 60)), (2, (.negSucc 2147483647), (.ofNat 2147483647)), (3, (.ofNat 0), (.ofNat 60)), (4, (.ofNat 0), (.ofNat 60))], [((.ofNat 1), [(1, (.negSucc 0)), (3, (.ofNat 1))])], [.inr (.inl (some 0)), .inl (false, ((.ofNat 0), [(0, (.ofNat 1))])), .inl (false, ((.ofNat 3), []))], [zc229,
    zc223,
    zc105,
    .inr (1, .inr (.inl 60))], []),
  [((8, [(5, (.negSucc 2147483647), (.ofNat 2147483647)), (6, (.ofNat 0), (.ofNat 60)), (7, (.ofNat 0), (.ofNat 60))], [], [], [zc232,
    zc223,
    zc105,
    .inr (1, .inr (.inl 60))], []), 0, 0)])
noncomputable def c41_10_e : List Ct := [c42_0, c43_0, c44_0, c45_5]
noncomputable def c41_10_pts : List PE := []
set_option maxRecDepth 100000 in
theorem c41_10_k : enCtF c41_10 c41_10_e (c41_10_pts ++ []) (none) noH 3000 = true := by decide +kernel
set_option maxRecDepth 100000 in
theorem c41_10_v : ValidC PPk c41_10 := ct_ok fpk noH_ok (d := 42) (ext := []) (pts := c41_10_pts) (env := c41_10_e) rfl (List.forall_mem_cons.mpr ⟨⟨c42_0_v, Nat.le_of_ble_eq_true rfl⟩, List.forall_mem_cons.mpr ⟨⟨c43_0_v, Nat.le_of_ble_eq_true rfl⟩, List.forall_mem_cons.mpr ⟨⟨c44_0_v, Nat.le_of_ble_eq_true rfl⟩, List.forall_mem_cons.mpr ⟨⟨c45_5_v, Nat.le_of_ble_eq_true rfl⟩, fun _ h => (by cases h)⟩⟩⟩⟩) ext_nil (fun q h => (by cases h)) (enF c41_10_k) (fun _ h => (by cases h))

noncomputable def c41_11 : Ct := (41, 2, (6, [(0, (.ofNat 0), (.ofNat 60)), (1, (.negSucc 2147483647), (.ofNat 2147483647)), (2, (.ofNat 0), (.ofNat 60)), (3, (.ofNat 0), (.ofNat 60))], [], [.inr (.inl (some 0)), .inl (false, ((.negSucc 0), [])), .inl (false, ((.ofNat 3), []))], [zc222,
    zc227,
    zc156,
    .inr (1, .inr (.inl 60))], []),
  [((7, [(6, (.negSucc 2147483647), (.ofNat 2147483647))], [], [], [zc228,
    zc227,
    zc156,
    .inr (1, .inr (.inl 60))], []), 0, 0)])
noncomputable def c41_11_e : List Ct := [c43_0]
noncomputable def c41_11_pts : List PE := []
set_option maxRecDepth 100000 in
theorem c41_11_k : enCtF c41_11 c41_11_e (c41_11_pts ++ []) (none) noH 3000 = true := by decide +kernel
set_option maxRecDepth 100000 in
theorem c41_11_v : ValidC PPk c41_11 := ct_ok fpk noH_ok (d := 1) (ext := []) (pts := c41_11_pts) (env := c41_11_e) rfl (List.forall_mem_cons.mpr ⟨⟨c43_0_v, Nat.le_of_ble_eq_true rfl⟩, fun _ h => (by cases h)⟩) ext_nil (fun q h => (by cases h)) (enF c41_11_k) (fun _ h => (by cases h))

noncomputable def c39_5 : Ct := (39, 44, (4, [(0, (.ofNat 0), (.ofNat 60)), (1, (.negSucc 2147483647), (.ofNat 2147483647)), (2, (.ofNat 0), (.ofNat 60)), (3, (.ofNat 0), (.ofNat 60))], [], [.inr (.inl (some 0)), .inl (false, ((.ofNat 3), []))], [zc222,
    zc223,
    zc105,
    .inr (1, .inr (.inl 60))], []),
  [((7, [(4, (.negSucc 2147483647), (.ofNat 2147483647)), (5, (.ofNat 0), (.ofNat 60)), (6, (.ofNat 0), (.ofNat 60))], [], [], [zc231,
    zc223,
    zc105,
    .inr (1, .inr (.inl 60))], []), 0, 0)])
noncomputable def c39_5_e : List Ct := [c40_0, c41_10, c41_11, c44_0]
noncomputable def c39_5_p0 : PE := (13, [0, 1, 2, 3, 4], (7, [(0, (.ofNat 1), (.ofNat 60)), (1, (.negSucc 0), (.negSucc 0)), (2, (.ofNat 0), (.ofNat 60)), (3, (.ofNat 0), (.ofNat 60)), (4, (.ofNat 0), (.ofNat 127)), (5, (.ofNat 0), (.ofNat 60)), (6, (.ofNat 0), (.ofNat 59))], [((.ofNat 1), [(0, (.negSucc 0)), (6, (.ofNat 1))])], [.inr (.inl (some 0)), .inl (false, ((.ofNat 3), [])), .inl (false, ((.ofNat 0), [(2, (.ofNat 1))])), .inl (false, ((.ofNat 0), [(4, (.ofNat 1))])), .inl (false, ((.ofNat 0), [(5, (.ofNat 1))]))], [zc225,
    zc223,
    zc105,
    .inr (1, .inr (.inl 60))], []), symsL 4 0, some ((.ofNat 182), [(5, (.negSucc 0))]), 0, 0)
noncomputable def c39_5_p1 : PE := (13, [0, 1, 2, 3, 4], (6, [(0, (.ofNat 0), (.ofNat 60)), (1, (.negSucc 2147483647), (.ofNat 2147483647)), (2, (.ofNat 0), (.ofNat 60)), (3, (.ofNat 0), (.ofNat 60)), (4, (.ofNat 0), (.ofNat 60)), (5, (.ofNat 0), (.ofNat 60))], [], [.inr (.inl (some 0)), .inl (false, ((.ofNat 3), [])), .inl (false, ((.ofNat 0), [(2, (.ofNat 1))])), .inl (false, ((.negSucc 0), [])), .inl (false, ((.ofNat 0), [(4, (.ofNat 1))]))], [zc224,
    zc223,
    zc105,
    .inr (1, .inr (.inl 60))], []), symsL 4 0, some ((.ofNat 182), [(4, (.negSucc 0))]), 0, 0)
noncomputable def c39_5_p2 : PE := (71, [0, 1, 2, 3, 4, 5], (10, [(0, (.ofNat 0), (.ofNat 60)), (1, (.negSucc 2147483647), (.ofNat 2147483647)), (2, (.ofNat 0), (.ofNat 60)), (3, (.ofNat 0), (.ofNat 60)), (4, (.negSucc 0), (.ofNat 127)), (5, (.ofNat 0), (.ofNat 60)), (6, (.negSucc 0), (.ofNat 59)), (7, (.negSucc 2147483647), (.ofNat 2147483647)), (8, (.ofNat 0), (.ofNat 60)), (9, (.ofNat 0), (.ofNat 60))], [], [.inr (.inl (some 0)), .inl (false, ((.ofNat 3), [])), .inl (false, ((.ofNat 0), [(2, (.ofNat 1))])), .inl (false, ((.ofNat 0), [(4, (.ofNat 1))])), .inl (false, ((.ofNat 0), [(5, (.ofNat 1))])), .inl (false, ((.ofNat 0), [(6, (.ofNat 1))]))], [zc233,
    zc223,
    zc105,
    .inr (1, .inr (.inl 60))], []), symsL 4 0, some ((.ofNat 62), [(6, (.ofNat 1))]), 0, 0)
noncomputable def c39_5_pts : List PE := [c39_5_p0, c39_5_p1, c39_5_p2]
set_option maxRecDepth 100000 in
theorem c39_5_k : enCtF c39_5 c39_5_e (c39_5_pts ++ []) (none) (noF, noM, 2361183241434822615040, 0, 4) 3000 = true := by decide +kernel
set_option maxRecDepth 100000 in
theorem c39_5_k0 : ptCtF c39_5 c39_5_e (c39_5_pts ++ []) (noF, noM, 2361183241434822615040, 0, 4) 3000 c39_5_p0 = true := by decide +kernel
set_option maxRecDepth 100000 in
theorem c39_5_k1 : ptCtF c39_5 c39_5_e (c39_5_pts ++ []) (noF, noM, 2361183241434822615040, 0, 4) 3000 c39_5_p1 = true := by decide +kernel
set_option maxRecDepth 100000 in
theorem c39_5_k2 : ptCtF c39_5 c39_5_e (c39_5_pts ++ []) (noF, noM, 2361183241434822615040, 0, 4) 3000 c39_5_p2 = true := by decide +kernel
set_option maxRecDepth 100000 in
theorem c39_5_v : ValidC PPk c39_5 := ct_ok fpk ⟨noF_ok, noM_ok⟩ (d := 43) (ext := []) (pts := c39_5_pts) (env := c39_5_e) rfl (List.forall_mem_cons.mpr ⟨⟨c40_0_v, Nat.le_of_ble_eq_true rfl⟩, List.forall_mem_cons.mpr ⟨⟨c41_10_v, Nat.le_of_ble_eq_true rfl⟩, List.forall_mem_cons.mpr ⟨⟨c41_11_v, Nat.le_of_ble_eq_true rfl⟩, List.forall_mem_cons.mpr ⟨⟨c44_0_v, Nat.le_of_ble_eq_true rfl⟩, fun _ h => (by cases h)⟩⟩⟩⟩) ext_nil (fun q h => (by cases h)) (enF c39_5_k) (List.forall_mem_cons.mpr ⟨ptF c39_5_k0, List.forall_mem_cons.mpr ⟨ptF c39_5_k1, List.forall_mem_cons.mpr ⟨ptF c39_5_k2, fun _ h => (by cases h)⟩⟩⟩)

noncomputable def c38_5 : Ct := (38, 45, (4, [(0, (.ofNat 0), (.ofNat 60)), (1, (.negSucc 2147483647), (.ofNat 2147483647)), (2, (.ofNat 0), (.ofNat 60)), (3, (.ofNat 0), (.ofNat 60))], [], [.inr (.inl (some 0)), .inl (false, ((.ofNat 3), []))], [zc222,
    zc223,
    zc105,
    .inr (1, .inr (.inl 60))], []),
  [((7, [(4, (.negSucc 2147483647), (.ofNat 2147483647)), (5, (.ofNat 0), (.ofNat 60)), (6, (.ofNat 0), (.ofNat 60))], [], [], [zc231,
    zc223,
    zc105,
    .inr (1, .inr (.inl 60))], []), 0, 0)])
noncomputable def c38_5_e : List Ct := [c39_5, c40_0, c44_0]
noncomputable def c38_5_p0 : PE := (7, [0, 1, 2], (7, [(0, (.ofNat 0), (.ofNat 60)), (1, (.negSucc 2147483647), (.ofNat 2147483647)), (2, (.ofNat 0), (.ofNat 60)), (3, (.ofNat 0), (.ofNat 60)), (4, (.negSucc 2147483647), (.ofNat 2147483647)), (5, (.ofNat 0), (.ofNat 60)), (6, (.ofNat 0), (.ofNat 60))], [], [.inr (.inl (some 0)), .inl (false, ((.ofNat 3), [])), .inl (false, ((.ofNat 0), []))], [zc231,
    zc223,
    zc105,
    .inr (1, .inr (.inl 60))], []), symsL 4 0, some ((.ofNat 121), []), 0, 0)
noncomputable def c38_5_p1 : PE := (7, [0, 1, 2, 3], (9, [(0, (.ofNat 1), (.ofNat 60)), (1, (.negSucc 2147483647), (.ofNat 2147483647)), (2, (.ofNat 0), (.ofNat 60)), (3, (.ofNat 0), (.ofNat 60)), (4, (.ofNat 1), (.ofNat 60)), (5, (.ofNat 42), (.ofNat 47)), (6, (.negSucc 2147483647), (.ofNat 2147483647)), (7, (.ofNat 0), (.ofNat 60)), (8, (.ofNat 1), (.ofNat 60))], [], [.inr (.inl (some 0)), .inl (false, ((.ofNat 3), [])), .inl (false, ((.ofNat 0), [(4, (.ofNat 1))])), .inl (false, ((.ofNat 0), [(5, (.ofNat 1))]))], [zc234,
    zc223,
    zc105,
    .inr (1, .inr (.inl 60))], []), symsL 4 0, some ((.ofNat 121), [(4, (.negSucc 0))]), 0, 0)
noncomputable def c38_5_pts : List PE := [c38_5_p0, c38_5_p1]
set_option maxRecDepth 100000 in
theorem c38_5_k : enCtF c38_5 c38_5_e (c38_5_pts ++ []) (none) (noF, noM, 128, 0, 4) 3000 = true := by decide +kernel
set_option maxRecDepth 100000 in
theorem c38_5_k0 : ptCtF c38_5 c38_5_e (c38_5_pts ++ []) (noF, noM, 128, 0, 4) 3000 c38_5_p0 = true := by decide +kernel
set_option maxRecDepth 100000 in
theorem c38_5_k1 : ptCtF c38_5 c38_5_e (c38_5_pts ++ []) (noF, noM, 128, 0, 4) 3000 c38_5_p1 = true := by decide +kernel
set_option maxRecDepth 100000 in
theorem c38_5_v : ValidC PPk c38_5 := ct_ok fpk ⟨noF_ok, noM_ok⟩ (d := 44) (ext := []) (pts := c38_5_pts) (env := c38_5_e) rfl (List.forall_mem_cons.mpr ⟨⟨c39_5_v, Nat.le_of_ble_eq_true rfl⟩, List.forall_mem_cons.mpr ⟨⟨c40_0_v, Nat.le_of_ble_eq_true rfl⟩, List.forall_mem_cons.mpr ⟨⟨c44_0_v, Nat.le_of_ble_eq_true rfl⟩, fun _ h => (by cases h)⟩⟩⟩) ext_nil (fun q h => (by cases h)) (enF c38_5_k) (List.forall_mem_cons.mpr ⟨ptF c38_5_k0, List.forall_mem_cons.mpr ⟨ptF c38_5_k1, fun _ h => (by cases h)⟩⟩)

noncomputable def c37_5 : Ct := (37, 46, (4, [(0, (.ofNat 0), (.ofNat 60)), (1, (.negSucc 2147483647), (.ofNat 2147483647)), (2, (.ofNat 0), (.ofNat 60)), (3, (.ofNat 0), (.ofNat 60))], [], [.inr (.inl (some 0)), .inl (false, ((.ofNat 3), []))], [zc222,
    zc223,
    zc105,
    .inr (1, .inr (.inl 60))], []),
  [((7, [(4, (.negSucc 2147483647), (.ofNat 2147483647)), (5, (.ofNat 0), (.ofNat 60)), (6, (.ofNat 0), (.ofNat 60))], [], [], [zc231,
    zc223,
    zc105,
    .inr (1, .inr (.inl 60))], []), 0, 0)])
noncomputable def c37_5_e : List Ct := [c38_5, c40_0, c44_0]
noncomputable def c37_5_p0 : PE := (7, [0, 1, 2], (7, [(0, (.ofNat 0), (.ofNat 60)), (1, (.negSucc 2147483647), (.ofNat 2147483647)), (2, (.ofNat 0), (.ofNat 60)), (3, (.ofNat 0), (.ofNat 60)), (4, (.negSucc 2147483647), (.ofNat 2147483647)), (5, (.ofNat 0), (.ofNat 60)), (6, (.ofNat 0), (.ofNat 60))], [], [.inr (.inl (some 0)), .inl (false, ((.ofNat 3), [])), .inl (false, ((.ofNat 0), []))], [zc231,
    zc223,
    zc105,
    .inr (1, .inr (.inl 60))], []), symsL 4 0, some ((.ofNat 121), []), 0, 0)
noncomputable def c37_5_p1 : PE := (7, [0, 1, 2, 3], (9, [(0, (.ofNat 1), (.ofNat 60)), (1, (.negSucc 2147483647), (.ofNat 2147483647)), (2, (.ofNat 0), (.ofNat 60)), (3, (.ofNat 0), (.ofNat 60)), (4, (.ofNat 1), (.ofNat 60)), (5, (.ofNat 43), (.ofNat 45)), (6, (.negSucc 2147483647), (.ofNat 2147483647)), (7, (.ofNat 0), (.ofNat 60)), (8, (.ofNat 1), (.ofNat 60))], [], [.inr (.inl (some 0)), .inl (false, ((.ofNat 3), [])), .inl (false, ((.ofNat 0), [(4, (.ofNat 1))])), .inl (false, ((.ofNat 0), [(5, (.ofNat 1))]))], [zc234,
    zc223,
    zc105,
    .inr (1, .inr (.inl 60))], []), symsL 4 0, some ((.ofNat 121), [(4, (.negSucc 0))]), 0, 0)
noncomputable def c37_5_pts : List PE := [c37_5_p0, c37_5_p1]
set_option maxRecDepth 100000 in
theorem c37_5_k : enCtF c37_5 c37_5_e (c37_5_pts ++ []) (none) (noF, noM, 128, 0, 4) 3000 = true := by decide +kernel
set_option maxRecDepth 100000 in
theorem c37_5_k0 : ptCtF c37_5 c37_5_e (c37_5_pts ++ []) (noF, noM, 128, 0, 4) 3000 c37_5_p0 = true := by decide +kernel
set_option maxRecDepth 100000 in
theorem c37_5_k1 : ptCtF c37_5 c37_5_e (c37_5_pts ++ []) (noF, noM, 128, 0, 4) 3000 c37_5_p1 = true := by decide +kernel
set_option maxRecDepth 100000 in
theorem c37_5_v : ValidC PPk c37_5 := ct_ok fpk ⟨noF_ok, noM_ok⟩ (d := 45) (ext := []) (pts := c37_5_pts) (env := c37_5_e) rfl (List.forall_mem_cons.mpr ⟨⟨c38_5_v, Nat.le_of_ble_eq_true rfl⟩, List.forall_mem_cons.mpr ⟨⟨c40_0_v, Nat.le_of_ble_eq_true rfl⟩, List.forall_mem_cons.mpr ⟨⟨c44_0_v, Nat.le_of_ble_eq_true rfl⟩, fun _ h => (by cases h)⟩⟩⟩) ext_nil (fun q h => (by cases h)) (enF c37_5_k) (List.forall_mem_cons.mpr ⟨ptF c37_5_k0, List.forall_mem_cons.mpr ⟨ptF c37_5_k1, fun _ h => (by cases h)⟩⟩)

noncomputable def c36_5 : Ct := (36, 47, (4, [(0, (.ofNat 0), (.ofNat 60)), (1, (.negSucc 2147483647), (.ofNat 2147483647)), (2, (.ofNat 0), (.ofNat 60)), (3, (.ofNat 0), (.ofNat 60))], [], [.inr (.inl (some 0)), .inl (false, ((.ofNat 3), []))], [zc222,
    zc223,
    zc105,
    .inr (1, .inr (.inl 60))], []),
  [((7, [(4, (.negSucc 2147483647), (.ofNat 2147483647)), (5, (.ofNat 0), (.ofNat 60)), (6, (.ofNat 0), (.ofNat 60))], [], [], [zc231,
    zc223,
    zc105,
    .inr (1, .inr (.inl 60))], []), 0, 0)])
noncomputable def c36_5_e : List Ct := [c37_5, c40_0, c44_0]
noncomputable def c36_5_pts : List PE := []
set_option maxRecDepth 100000 in
theorem c36_5_k : enCtF c36_5 c36_5_e (c36_5_pts ++ []) (none) noH 3000 = true := by decide +kernel
set_option maxRecDepth 100000 in
theorem c36_5_v : ValidC PPk c36_5 := ct_ok fpk noH_ok (d := 46) (ext := []) (pts := c36_5_pts) (env := c36_5_e) rfl (List.forall_mem_cons.mpr ⟨⟨c37_5_v, Nat.le_of_ble_eq_true rfl⟩, List.forall_mem_cons.mpr ⟨⟨c40_0_v, Nat.le_of_ble_eq_true rfl⟩, List.forall_mem_cons.mpr ⟨⟨c44_0_v, Nat.le_of_ble_eq_true rfl⟩, fun _ h => (by cases h)⟩⟩⟩) ext_nil (fun q h => (by cases h)) (enF c36_5_k) (fun _ h => (by cases h))

noncomputable def c35_5 : Ct := (35, 48, (4, [(0, (.ofNat 0), (.ofNat 60)), (1, (.negSucc 2147483647), (.ofNat 2147483647)), (2, (.ofNat 0), (.ofNat 60)), (3, (.ofNat 0), (.ofNat 60))], [], [.inr (.inl (some 0)), .inl (false, ((.ofNat 3), []))], [zc222,
    zc223,
    zc105,
    .inr (1, .inr (.inl 60))], []),
  [((7, [(4, (.negSucc 2147483647), (.ofNat 2147483647)), (5, (.ofNat 0), (.ofNat 60)), (6, (.ofNat 0), (.ofNat 60))], [], [], [zc231,
    zc223,
    zc105,
    .inr (1, .inr (.inl 60))], []), 0, 0)])
noncomputable def c35_5_e : List Ct := [c36_5, c40_0, c44_0]
noncomputable def c35_5_p0 : PE := (7, [0, 1, 2], (8, [(0, (.ofNat 0), (.ofNat 60)), (1, (.negSucc 2147483647), (.ofNat 2147483647)), (2, (.ofNat 0), (.ofNat 60)), (3, (.ofNat 0), (.ofNat 60)), (4, (.ofNat 0), (.ofNat 60)), (5, (.negSucc 2147483647), (.ofNat 2147483647)), (6, (.ofNat 0), (.ofNat 60)), (7, (.ofNat 0), (.ofNat 60))], [], [.inr (.inl (some 0)), .inl (false, ((.ofNat 3), [])), .inl (false, ((.ofNat 0), [(4, (.ofNat 1))]))], [zc235,
    zc223,
    zc105,
    .inr (1, .inr (.inl 60))], []), symsL 4 0, some ((.ofNat 121), [(4, (.negSucc 0))]), 0, 0)
noncomputable def c35_5_pts : List PE := [c35_5_p0]
set_option maxRecDepth 100000 in
theorem c35_5_k : enCtF c35_5 c35_5_e (c35_5_pts ++ []) (none) (noF, noM, 128, 0, 4) 3000 = true := by decide +kernel
set_option maxRecDepth 100000 in
theorem c35_5_k0 : ptCtF c35_5 c35_5_e (c35_5_pts ++ []) (noF, noM, 128, 0, 4) 3000 c35_5_p0 = true := by decide +kernel
set_option maxRecDepth 100000 in
theorem c35_5_v : ValidC PPk c35_5 := ct_ok fpk ⟨noF_ok, noM_ok⟩ (d := 47) (ext := []) (pts := c35_5_pts) (env := c35_5_e) rfl (List.forall_mem_cons.mpr ⟨⟨c36_5_v, Nat.le_of_ble_eq_true rfl⟩, List.forall_mem_cons.mpr ⟨⟨c40_0_v, Nat.le_of_ble_eq_true rfl⟩, List.forall_mem_cons.mpr ⟨⟨c44_0_v, Nat.le_of_ble_eq_true rfl⟩, fun _ h => (by cases h)⟩⟩⟩) ext_nil (fun q h => (by cases h)) (enF c35_5_k) (List.forall_mem_cons.mpr ⟨ptF c35_5_k0, fun _ h => (by cases h)⟩)

noncomputable def c34_5 : Ct := (34, 49, (4, [(0, (.ofNat 0), (.ofNat 60)), (1, (.negSucc 2147483647), (.ofNat 2147483647)), (2, (.ofNat 0), (.ofNat 60)), (3, (.ofNat 0), (.ofNat 60))], [], [.inr (.inl (some 0)), .inl (false, ((.ofNat 3), []))], [zc222,
    zc223,
    zc105,
    .inr (1, .inr (.inl 60))], []),
  [((7, [(4, (.negSucc 2147483647), (.ofNat 2147483647)), (5, (.ofNat 0), (.ofNat 60)), (6, (.ofNat 0), (.ofNat 60))], [], [], [zc231,
    zc223,
    zc105,
    .inr (1, .inr (.inl 60))], []), 0, 0)])
noncomputable def c34_5_e : List Ct := [c35_5, c40_0, c44_0]
noncomputable def c34_5_p0 : PE := (7, [0, 1, 2], (8, [(0, (.ofNat 0), (.ofNat 60)), (1, (.negSucc 2147483647), (.ofNat 2147483647)), (2, (.ofNat 0), (.ofNat 60)), (3, (.ofNat 0), (.ofNat 60)), (4, (.ofNat 0), (.ofNat 60)), (5, (.negSucc 2147483647), (.ofNat 2147483647)), (6, (.ofNat 0), (.ofNat 60)), (7, (.ofNat 0), (.ofNat 60))], [], [.inr (.inl (some 0)), .inl (false, ((.ofNat 3), [])), .inl (false, ((.ofNat 0), [(4, (.ofNat 1))]))], [zc235,
    zc223,
    zc105,
    .inr (1, .inr (.inl 60))], []), symsL 4 0, some ((.ofNat 121), [(4, (.negSucc 0))]), 0, 0)
noncomputable def c34_5_pts : List PE := [c34_5_p0]
set_option maxRecDepth 100000 in
theorem c34_5_k : enCtF c34_5 c34_5_e (c34_5_pts ++ []) (none) (noF, noM, 128, 0, 4) 3000 = true := by decide +kernel
set_option maxRecDepth 100000 in
theorem c34_5_k0 : ptCtF c34_5 c34_5_e (c34_5_pts ++ []) (noF, noM, 128, 0, 4) 3000 c34_5_p0 = true := by decide +kernel
set_option maxRecDepth 100000 in
theorem c34_5_v : ValidC PPk c34_5 := ct_ok fpk ⟨noF_ok, noM_ok⟩ (d := 48) (ext := []) (pts := c34_5_pts) (env := c34_5_e) rfl (List.forall_mem_cons.mpr ⟨⟨c35_5_v, Nat.le_of_ble_eq_true rfl⟩, List.forall_mem_cons.mpr ⟨⟨c40_0_v, Nat.le_of_ble_eq_true rfl⟩, List.forall_mem_cons.mpr ⟨⟨c44_0_v, Nat.le_of_ble_eq_true rfl⟩, fun _ h => (by cases h)⟩⟩⟩) ext_nil (fun q h => (by cases h)) (enF c34_5_k) (List.forall_mem_cons.mpr ⟨ptF c34_5_k0, fun _ h => (by cases h)⟩)

noncomputable def c45_6 : Ct := (45, 50, (4, [(0, (.ofNat 0), (.ofNat 60)), (1, (.negSucc 2147483647), (.ofNat 2147483647)), (2, (.ofNat 0), (.ofNat 60)), (3, (.ofNat 0), (.ofNat 60))], [((.ofNat 1), [(0, (.negSucc 0)), (2, (.ofNat 1))])], [.inr (.inl (some 0)), .inl (false, ((.ofNat 2), []))], [zc222,
    zc223,
    zc105,
    .inr (1, .inr (.inl 60))], []),
  [((7, [(4, (.negSucc 2147483647), (.ofNat 2147483647)), (5, (.ofNat 0), (.ofNat 60)), (6, (.ofNat 0), (.ofNat 60))], [], [], [zc231,
    zc223,
    zc105,
    .inr (1, .inr (.inl 60))], []), 0, 0)])
noncomputable def c45_6_e : List Ct := [c34_5, c40_0, c43_0]
noncomputable def c45_6_pts : List PE := []
set_option maxRecDepth 100000 in
theorem c45_6_k : enCtF c45_6 c45_6_e (c45_6_pts ++ []) (none) noH 3000 = true := by decide +kernel
set_option maxRecDepth 100000 in
theorem c45_6_v : ValidC PPk c45_6 := ct_ok fpk noH_ok (d := 49) (ext := []) (pts := c45_6_pts) (env := c45_6_e) rfl (List.forall_mem_cons.mpr ⟨⟨c34_5_v, Nat.le_of_ble_eq_true rfl⟩, List.forall_mem_cons.mpr ⟨⟨c40_0_v, Nat.le_of_ble_eq_true rfl⟩, List.forall_mem_cons.mpr ⟨⟨c43_0_v, Nat.le_of_ble_eq_true rfl⟩, fun _ h => (by cases h)⟩⟩⟩) ext_nil (fun q h => (by cases h)) (enF c45_6_k) (fun _ h => (by cases h))

noncomputable def c41_12 : Ct := (41, 51, (5, [(0, (.negSucc 2147483647), (.ofNat 2147483647)), (1, (.ofNat 0), (.ofNat 60)), (2, (.negSucc 2147483647), (.ofNat 2147483647)), (3, (.ofNat 0), (.ofNat 60)), (4, (.ofNat 0), (.ofNat 60))], [((.ofNat 1), [(1, (.negSucc 0)), (3, (.ofNat 1))])], [.inr (.inl (some 0)), .inl (false, ((.ofNat 0), [(0, (.ofNat 1))])), .inl (false, ((.ofNat 2), []))], [zc229,
    zc223,
    zc105,
    .inr (1, .inr (.inl 60))], []),
  [((8, [(5, (.negSucc 2147483647), (.ofNat 2147483647)), (6, (.ofNat 0), (.ofNat 60)), (7, (.ofNat 0), (.ofNat 60))], [], [], [zc232,
    zc223,
    zc105,
    .inr (1, .inr (.inl 60))], []), 0, 0)])
noncomputable def c41_12_e : List Ct := [c42_0, c43_0, c44_0, c45_6]
noncomputable def c41_12_pts : List PE := []
set_option maxRecDepth 100000 in
theorem c41_12_k : enCtF c41_12 c41_12_e (c41_12_pts ++ []) (none) noH 3000 = true := by decide +kernel
set_option maxRecDepth 100000 in
theorem c41_12_v : ValidC PPk c41_12 := ct_ok fpk noH_ok (d := 50) (ext := []) (pts := c41_12_pts) (env := c41_12_e) rfl (List.forall_mem_cons.mpr ⟨⟨c42_0_v, Nat.le_of_ble_eq_true rfl⟩, List.forall_mem_cons.mpr ⟨⟨c43_0_v, Nat.le_of_ble_eq_true rfl⟩, List.forall_mem_cons.mpr ⟨⟨c44_0_v, Nat.le_of_ble_eq_true rfl⟩, List.forall_mem_cons.mpr ⟨⟨c45_6_v, Nat.le_of_ble_eq_true rfl⟩, fun _ h => (by cases h)⟩⟩⟩⟩) ext_nil (fun q h => (by cases h)) (enF c41_12_k) (fun _ h => (by cases h))

noncomputable def c41_13 : Ct := (41, 2, (6, [(0, (.ofNat 0), (.ofNat 60)), (1, (.negSucc 2147483647), (.ofNat 2147483647)), (2, (.ofNat 0), (.ofNat 60)), (3, (.ofNat 0), (.ofNat 60))], [], [.inr (.inl (some 0)), .inl (false, ((.negSucc 0), [])), .inl (false, ((.ofNat 2), []))], [zc222,
    zc227,
    zc156,
    .inr (1, .inr (.inl 60))], []),
  [((7, [(6, (.negSucc 2147483647), (.ofNat 2147483647))], [], [], [zc228,
    zc227,
    zc156,
    .inr (1, .inr (.inl 60))], []), 0, 0)])
noncomputable def c41_13_e : List Ct := [c43_0]
noncomputable def c41_13_pts : List PE := []
set_option maxRecDepth 100000 in
theorem c41_13_k : enCtF c41_13 c41_13_e (c41_13_pts ++ []) (none) noH 3000 = true := by decide +kernel
set_option maxRecDepth 100000 in
theorem c41_13_v : ValidC PPk c41_13 := ct_ok fpk noH_ok (d := 1) (ext := []) (pts := c41_13_pts) (env := c41_13_e) rfl (List.forall_mem_cons.mpr ⟨⟨c43_0_v, Nat.le_of_ble_eq_true rfl⟩, fun _ h => (by cases h)⟩) ext_nil (fun q h => (by cases h)) (enF c41_13_k) (fun _ h => (by cases h))

noncomputable def c39_6 : Ct := (39, 52, (4, [(0, (.ofNat 0), (.ofNat 60)), (1, (.negSucc 2147483647), (.ofNat 2147483647)), (2, (.ofNat 0), (.ofNat 60)), (3, (.ofNat 0), (.ofNat 60))], [], [.inr (.inl (some 0)), .inl (false, ((.ofNat 2), []))], [zc222,
    zc223,
    zc105,
    .inr (1, .inr (.inl 60))], []),
  [((7, [(4, (.negSucc 2147483647), (.ofNat 2147483647)), (5, (.ofNat 0), (.ofNat 60)), (6, (.ofNat 0), (.ofNat 60))], [], [], [zc231,
    zc223,
    zc105,
    .inr (1, .inr (.inl 60))], []), 0, 0)])
noncomputable def c39_6_e : List Ct := [c40_0, c41_12, c41_13, c44_0]
noncomputable def c39_6_p0 : PE := (13, [0, 1, 2, 3, 4], (7, [(0, (.ofNat 1), (.ofNat 60)), (1, (.negSucc 0), (.negSucc 0)), (2, (.ofNat 0), (.ofNat 60)), (3, (.ofNat 0), (.ofNat 60)), (4, (.ofNat 0), (.ofNat 127)), (5, (.ofNat 0), (.ofNat 60)), (6, (.ofNat 0), (.ofNat 59))], [((.ofNat 1), [(0, (.negSucc 0)), (6, (.ofNat 1))])], [.inr (.inl (some 0)), .inl (false, ((.ofNat 2), [])), .inl (false, ((.ofNat 0), [(2, (.ofNat 1))])), .inl (false, ((.ofNat 0), [(4, (.ofNat 1))])), .inl (false, ((.ofNat 0), [(5, (.ofNat 1))]))], [zc225,
    zc223,
    zc105,
    .inr (1, .inr (.inl 60))], []), symsL 4 0, some ((.ofNat 182), [(5, (.negSucc 0))]), 0, 0)
noncomputable def c39_6_p1 : PE := (13, [0, 1, 2, 3, 4], (6, [(0, (.ofNat 0), (.ofNat 60)), (1, (.negSucc 2147483647), (.ofNat 2147483647)), (2, (.ofNat 0), (.ofNat 60)), (3, (.ofNat 0), (.ofNat 60)), (4, (.ofNat 0), (.ofNat 60)), (5, (.ofNat 0), (.ofNat 60))], [], [.inr (.inl (some 0)), .inl (false, ((.ofNat 2), [])), .inl (false, ((.ofNat 0), [(2, (.ofNat 1))])), .inl (false, ((.negSucc 0), [])), .inl (false, ((.ofNat 0), [(4, (.ofNat 1))]))], [zc224,
    zc223,
    zc105,
    .inr (1, .inr (.inl 60))], []), symsL 4 0, some ((.ofNat 182), [(4, (.negSucc 0))]), 0, 0)
noncomputable def c39_6_p2 : PE := (71, [0, 1, 2, 3, 4, 5], (10, [(0, (.ofNat 0), (.ofNat 60)), (1, (.negSucc 2147483647), (.ofNat 2147483647)), (2, (.ofNat 0), (.ofNat 60)), (3, (.ofNat 0), (.ofNat 60)), (4, (.negSucc 0), (.ofNat 127)), (5, (.ofNat 0), (.ofNat 60)), (6, (.negSucc 0), (.ofNat 59)), (7, (.negSucc 2147483647), (.ofNat 2147483647)), (8, (.ofNat 0), (.ofNat 60)), (9, (.ofNat 0), (.ofNat 60))], [], [.inr (.inl (some 0)), .inl (false, ((.ofNat 2), [])), .inl (false, ((.ofNat 0), [(2, (.ofNat 1))])), .inl (false, ((.ofNat 0), [(4, (.ofNat 1))])), .inl (false, ((.ofNat 0), [(5, (.ofNat 1))])), .inl (false, ((.ofNat 0), [(6, (.ofNat 1))]))], [zc233,
    zc223,
    zc105,
    .inr (1, .inr (.inl 60))], []), symsL 4 0, some ((.ofNat 62), [(6, (.ofNat 1))]), 0, 0)
noncomputable def c39_6_pts : List PE := [c39_6_p0, c39_6_p1, c39_6_p2]
set_option maxRecDepth 100000 in
theorem c39_6_k : enCtF c39_6 c39_6_e (c39_6_pts ++ []) (none) (noF, noM, 2361183241434822615040, 0, 4) 3000 = true := by decide +kernel
set_option maxRecDepth 100000 in
theorem c39_6_k0 : ptCtF c39_6 c39_6_e (c39_6_pts ++ []) (noF, noM, 2361183241434822615040, 0, 4) 3000 c39_6_p0 = true := by decide +kernel
set_option maxRecDepth 100000 in
theorem c39_6_k1 : ptCtF c39_6 c39_6_e (c39_6_pts ++ []) (noF, noM, 2361183241434822615040, 0, 4) 3000 c39_6_p1 = true := by decide +kernel
set_option maxRecDepth 100000 in
theorem c39_6_k2 : ptCtF c39_6 c39_6_e (c39_6_pts ++ []) (noF, noM, 2361183241434822615040, 0, 4) 3000 c39_6_p2 = true := by decide +kernel
set_option maxRecDepth 100000 in
theorem c39_6_v : ValidC PPk c39_6 := ct_ok fpk ⟨noF_ok, noM_ok⟩ (d := 51) (ext := []) (pts := c39_6_pts) (env := c39_6_e) rfl (List.forall_mem_cons.mpr ⟨⟨c40_0_v, Nat.le_of_ble_eq_true rfl⟩, List.forall_mem_cons.mpr ⟨⟨c41_12_v, Nat.le_of_ble_eq_true rfl⟩, List.forall_mem_cons.mpr ⟨⟨c41_13_v, Nat.le_of_ble_eq_true rfl⟩, List.forall_mem_cons.mpr ⟨⟨c44_0_v, Nat.le_of_ble_eq_true rfl⟩, fun _ h => (by cases h)⟩⟩⟩⟩) ext_nil (fun q h => (by cases h)) (enF c39_6_k) (List.forall_mem_cons.mpr ⟨ptF c39_6_k0, List.forall_mem_cons.mpr ⟨ptF c39_6_k1, List.forall_mem_cons.mpr ⟨ptF c39_6_k2, fun _ h => (by cases h)⟩⟩⟩)

noncomputable def c38_6 : Ct := (38, 53, (4, [(0, (.ofNat 0), (.ofNat 60)), (1, (.negSucc 2147483647), (.ofNat 2147483647)), (2, (.ofNat 0), (.ofNat 60)), (3, (.ofNat 0), (.ofNat 60))], [], [.inr (.inl (some 0)), .inl (false, ((.ofNat 2), []))], [zc222,
    zc223,
    zc105,
    .inr (1, .inr (.inl 60))], []),
  [((7, [(4, (.negSucc 2147483647), (.ofNat 2147483647)), (5, (.ofNat 0), (.ofNat 60)), (6, (.ofNat 0), (.ofNat 60))], [], [], [zc231,
    zc223,
    zc105,
    .inr (1, .inr (.inl 60))], []), 0, 0)])
noncomputable def c38_6_e : List Ct := [c39_6, c40_0, c44_0]
noncomputable def c38_6_p0 : PE := (7, [0, 1, 2], (7, [(0, (.ofNat 0), (.ofNat 60)), (1, (.negSucc 2147483647), (.ofNat 2147483647)), (2, (.ofNat 0), (.ofNat 60)), (3, (.ofNat 0), (.ofNat 60)), (4, (.negSucc 2147483647), (.ofNat 2147483647)), (5, (.ofNat 0), (.ofNat 60)), (6, (.ofNat 0), (.ofNat 60))], [], [.inr (.inl (some 0)), .inl (false, ((.ofNat 2), [])), .inl (false, ((.ofNat 0), []))], [zc231,
    zc223,
    zc105,
    .inr (1, .inr (.inl 60))], []), symsL 4 0, some ((.ofNat 121), []), 0, 0)
noncomputable def c38_6_p1 : PE := (7, [0, 1, 2, 3], (9, [(0, (.ofNat 1), (.ofNat 60)), (1, (.negSucc 2147483647), (.ofNat 2147483647)), (2, (.ofNat 0), (.ofNat 60)), (3, (.ofNat 0), (.ofNat 60)), (4, (.ofNat 1), (.ofNat 60)), (5, (.ofNat 42), (.ofNat 47)), (6, (.negSucc 2147483647), (.ofNat 2147483647)), (7, (.ofNat 0), (.ofNat 60)), (8, (.ofNat 1), (.ofNat 60))], [], [.inr (.inl (some 0)), .inl (false, ((.ofNat 2), [])), .inl (false, ((.ofNat 0), [(4, (.ofNat 1))])), .inl (false, ((.ofNat 0), [(5, (.ofNat 1))]))], [zc234,
    zc223,
    zc105,
    .inr (1, .inr (.inl 60))], []), symsL 4 0, some ((.ofNat 121), [(4, (.negSucc 0))]), 0, 0)
noncomputable def c38_6_pts : List PE := [c38_6_p0, c38_6_p1]
set_option maxRecDepth 100000 in
theorem c38_6_k : enCtF c38_6 c38_6_e (c38_6_pts ++ []) (none) (noF, noM, 128, 0, 4) 3000 = true := by decide +kernel
set_option maxRecDepth 100000 in
theorem c38_6_k0 : ptCtF c38_6 c38_6_e (c38_6_pts ++ []) (noF, noM, 128, 0, 4) 3000 c38_6_p0 = true := by decide +kernel
set_option maxRecDepth 100000 in
theorem c38_6_k1 : ptCtF c38_6 c38_6_e (c38_6_pts ++ []) (noF, noM, 128, 0, 4) 3000 c38_6_p1 = true := by decide +kernel
set_option maxRecDepth 100000 in
theorem c38_6_v : ValidC PPk c38_6 := ct_ok fpk ⟨noF_ok, noM_ok⟩ (d := 52) (ext := []) (pts := c38_6_pts) (env := c38_6_e) rfl (List.forall_mem_cons.mpr ⟨⟨c39_6_v, Nat.le_of_ble_eq_true rfl⟩, List.forall_mem_cons.mpr ⟨⟨c40_0_v, Nat.le_of_ble_eq_true rfl⟩, List.forall_mem_cons.mpr ⟨⟨c44_0_v, Nat.le_of_ble_eq_true rfl⟩, fun _ h => (by cases h)⟩⟩⟩) ext_nil (fun q h => (by cases h)) (enF c38_6_k) (List.forall_mem_cons.mpr ⟨ptF c38_6_k0, List.forall_mem_cons.mpr ⟨ptF c38_6_k1, fun _ h => (by cases h)⟩⟩)

noncomputable def c37_6 : Ct := (37, 54, (4, [(0, (.ofNat 0), (.ofNat 60)), (1, (.negSucc 2147483647), (.ofNat 2147483647)), (2, (.ofNat 0), (.ofNat 60)), (3, (.ofNat 0), (.ofNat 60))], [], [.inr (.inl (some 0)), .inl (false, ((.ofNat 2), []))], [zc222,
    zc223,
    zc105,
    .inr (1, .inr (.inl 60))], []),
  [((7, [(4, (.negSucc 2147483647), (.ofNat 2147483647)), (5, (.ofNat 0), (.ofNat 60)), (6, (.ofNat 0), (.ofNat 60))], [], [], [zc231,
    zc223,
    zc105,
    .inr (1, .inr (.inl 60))], []), 0, 0)])
noncomputable def c37_6_e : List Ct := [c38_6, c40_0, c44_0]
noncomputable def c37_6_p0 : PE := (7, [0, 1, 2], (7, [(0, (.ofNat 0), (.ofNat 60)), (1, (.negSucc 2147483647), (.ofNat 2147483647)), (2, (.ofNat 0), (.ofNat 60)), (3, (.ofNat 0), (.ofNat 60)), (4, (.negSucc 2147483647), (.ofNat 2147483647)), (5, (.ofNat 0), (.ofNat 60)), (6, (.ofNat 0), (.ofNat 60))], [], [.inr (.inl (some 0)), .inl (false, ((.ofNat 2), [])), .inl (false, ((.ofNat 0), []))], [zc231,
    zc223,
    zc105,
    .inr (1, .inr (.inl 60))], []), symsL 4 0, some ((.ofNat 121), []), 0, 0)
noncomputable def c37_6_p1 : PE := (7, [0, 1, 2, 3], (9, [(0, (.ofNat 1), (.ofNat 60)), (1, (.negSucc 2147483647), (.ofNat 2147483647)), (2, (.ofNat 0), (.ofNat 60)), (3, (.ofNat 0), (.ofNat 60)), (4, (.ofNat 1), (.ofNat 60)), (5, (.ofNat 43), (.ofNat 45)), (6, (.negSucc 2147483647), (.ofNat 2147483647)), (7, (.ofNat 0), (.ofNat 60)), (8, (.ofNat 1), (.ofNat 60))], [], [.inr (.inl (some 0)), .inl (false, ((.ofNat 2), [])), .inl (false, ((.ofNat 0), [(4, (.ofNat 1))])), .inl (false, ((.ofNat 0), [(5, (.ofNat 1))]))], [zc234,
    zc223,
    zc105,
    .inr (1, .inr (.inl 60))], []), symsL 4 0, some ((.ofNat 121), [(4, (.negSucc 0))]), 0, 0)
noncomputable def c37_6_pts : List PE := [c37_6_p0, c37_6_p1]
set_option maxRecDepth 100000 in
theorem c37_6_k : enCtF c37_6 c37_6_e (c37_6_pts ++ []) (none) (noF, noM, 128, 0, 4) 3000 = true := by decide +kernel
set_option maxRecDepth 100000 in
theorem c37_6_k0 : ptCtF c37_6 c37_6_e (c37_6_pts ++ []) (noF, noM, 128, 0, 4) 3000 c37_6_p0 = true := by decide +kernel
set_option maxRecDepth 100000 in
theorem c37_6_k1 : ptCtF c37_6 c37_6_e (c37_6_pts ++ []) (noF, noM, 128, 0, 4) 3000 c37_6_p1 = true := by decide +kernel
set_option maxRecDepth 100000 in
theorem c37_6_v : ValidC PPk c37_6 := ct_ok fpk ⟨noF_ok, noM_ok⟩ (d := 53) (ext := []) (pts := c37_6_pts) (env := c37_6_e) rfl (List.forall_mem_cons.mpr ⟨⟨c38_6_v, Nat.le_of_ble_eq_true rfl⟩, List.forall_mem_cons.mpr ⟨⟨c40_0_v, Nat.le_of_ble_eq_true rfl⟩, List.forall_mem_cons.mpr ⟨⟨c44_0_v, Nat.le_of_ble_eq_true rfl⟩, fun _ h => (by cases h)⟩⟩⟩) ext_nil (fun q h => (by cases h)) (enF c37_6_k) (List.forall_mem_cons.mpr ⟨ptF c37_6_k0, List.forall_mem_cons.mpr ⟨ptF c37_6_k1, fun _ h => (by cases h)⟩⟩)

noncomputable def c36_6 : Ct := (36, 55, (4, [(0, (.ofNat 0), (.ofNat 60)), (1, (.negSucc 2147483647), (.ofNat 2147483647)), (2, (.ofNat 0), (.ofNat 60)), (3, (.ofNat 0), (.ofNat 60))], [], [.inr (.inl (some 0)), .inl (false, ((.ofNat 2), []))], [zc222,
    zc223,
    zc105,
    .inr (1, .inr (.inl 60))], []),
  [((7, [(4, (.negSucc 2147483647), (.ofNat 2147483647)), (5, (.ofNat 0), (.ofNat 60)), (6, (.ofNat 0), (.ofNat 60))], [], [], [zc231,
    zc223,
    zc105,
    .inr (1, .inr (.inl 60))], []), 0, 0)])
noncomputable def c36_6_e : List Ct := [c37_6, c40_0, c44_0]
noncomputable def c36_6_pts : List PE := []
set_option maxRecDepth 100000 in
theorem c36_6_k : enCtF c36_6 c36_6_e (c36_6_pts ++ []) (none) noH 3000 = true := by decide +kernel
set_option maxRecDepth 100000 in
theorem c36_6_v : ValidC PPk c36_6 := ct_ok fpk noH_ok (d := 54) (ext := []) (pts := c36_6_pts) (env := c36_6_e) rfl (List.forall_mem_cons.mpr ⟨⟨c37_6_v, Nat.le_of_ble_eq_true rfl⟩, List.forall_mem_cons.mpr ⟨⟨c40_0_v, Nat.le_of_ble_eq_true rfl⟩, List.forall_mem_cons.mpr ⟨⟨c44_0_v, Nat.le_of_ble_eq_true rfl⟩, fun _ h => (by cases h)⟩⟩⟩) ext_nil (fun q h => (by cases h)) (enF c36_6_k) (fun _ h => (by cases h))

noncomputable def c35_6 : Ct := (35, 56, (4, [(0, (.ofNat 0), (.ofNat 60)), (1, (.negSucc 2147483647), (.ofNat 2147483647)), (2, (.ofNat 0), (.ofNat 60)), (3, (.ofNat 0), (.ofNat 60))], [], [.inr (.inl (some 0)), .inl (false, ((.ofNat 2), []))], [zc222,
    zc223,
    zc105,
    .inr (1, .inr (.inl 60))], []),
  [((7, [(4, (.negSucc 2147483647), (.ofNat 2147483647)), (5, (.ofNat 0), (.ofNat 60)), (6, (.ofNat 0), (.ofNat 60))], [], [], [zc231,
    zc223,
    zc105,
    .inr (1, .inr (.inl 60))], []), 0, 0)])
noncomputable def c35_6_e : List Ct := [c36_6, c40_0, c44_0]
noncomputable def c35_6_p0 : PE := (7, [0, 1, 2], (8, [(0, (.ofNat 0), (.ofNat 60)), (1, (.negSucc 2147483647), (.ofNat 2147483647)), (2, (.ofNat 0), (.ofNat 60)), (3, (.ofNat 0), (.ofNat 60)), (4, (.ofNat 0), (.ofNat 60)), (5, (.negSucc 2147483647), (.ofNat 2147483647)), (6, (.ofNat 0), (.ofNat 60)), (7, (.ofNat 0), (.ofNat 60))], [], [.inr (.inl (some 0)), .inl (false, ((.ofNat 2), [])), .inl (false, ((.ofNat 0), [(4, (.ofNat 1))]))], [zc235,
    zc223,
    zc105,
    .inr (1, .inr (.inl 60))], []), symsL 4 0, some ((.ofNat 121), [(4, (.negSucc 0))]), 0, 0)
noncomputable def c35_6_pts : List PE := [c35_6_p0]
set_option maxRecDepth 100000 in
theorem c35_6_k : enCtF c35_6 c35_6_e (c35_6_pts ++ []) (none) (noF, noM, 128, 0, 4) 3000 = true := by decide +kernel
set_option maxRecDepth 100000 in
theorem c35_6_k0 : ptCtF c35_6 c35_6_e (c35_6_pts ++ []) (noF, noM, 128, 0, 4) 3000 c35_6_p0 = true := by decide +kernel
set_option maxRecDepth 100000 in
theorem c35_6_v : ValidC PPk c35_6 := ct_ok fpk ⟨noF_ok, noM_ok⟩ (d := 55) (ext := []) (pts := c35_6_pts) (env := c35_6_e) rfl (List.forall_mem_cons.mpr ⟨⟨c36_6_v, Nat.le_of_ble_eq_true rfl⟩, List.forall_mem_cons.mpr ⟨⟨c40_0_v, Nat.le_of_ble_eq_true rfl⟩, List.forall_mem_cons.mpr ⟨⟨c44_0_v, Nat.le_of_ble_eq_true rfl⟩, fun _ h => (by cases h)⟩⟩⟩) ext_nil (fun q h => (by cases h)) (enF c35_6_k) (List.forall_mem_cons.mpr ⟨ptF c35_6_k0, fun _ h => (by cases h)⟩)

noncomputable def c34_6 : Ct := (34, 57, (4, [(0, (.ofNat 0), (.ofNat 60)), (1, (.negSucc 2147483647), (.ofNat 2147483647)), (2, (.ofNat 0), (.ofNat 60)), (3, (.ofNat 0), (.ofNat 60))], [], [.inr (.inl (some 0)), .inl (false, ((.ofNat 2), []))], [zc222,
    zc223,
    zc105,
    .inr (1, .inr (.inl 60))], []),
  [((7, [(4, (.negSucc 2147483647), (.ofNat 2147483647)), (5, (.ofNat 0), (.ofNat 60)), (6, (.ofNat 0), (.ofNat 60))], [], [], [zc231,
    zc223,
    zc105,
    .inr (1, .inr (.inl 60))], []), 0, 0)])
noncomputable def c34_6_e : List Ct := [c35_6, c40_0, c44_0]
noncomputable def c34_6_p0 : PE := (7, [0, 1, 2], (8, [(0, (.ofNat 0), (.ofNat 60)), (1, (.negSucc 2147483647), (.ofNat 2147483647)), (2, (.ofNat 0), (.ofNat 60)), (3, (.ofNat 0), (.ofNat 60)), (4, (.ofNat 0), (.ofNat 60)), (5, (.negSucc 2147483647), (.ofNat 2147483647)), (6, (.ofNat 0), (.ofNat 60)), (7, (.ofNat 0), (.ofNat 60))], [], [.inr (.inl (some 0)), .inl (false, ((.ofNat 2), [])), .inl (false, ((.ofNat 0), [(4, (.ofNat 1))]))], [zc235,
    zc223,
    zc105,
    .inr (1, .inr (.inl 60))], []), symsL 4 0, some ((.ofNat 121), [(4, (.negSucc 0))]), 0, 0)
noncomputable def c34_6_pts : List PE := [c34_6_p0]
set_option maxRecDepth 100000 in
theorem c34_6_k : enCtF c34_6 c34_6_e (c34_6_pts ++ []) (none) (noF, noM, 128, 0, 4) 3000 = true := by decide +kernel
set_option maxRecDepth 100000 in
theorem c34_6_k0 : ptCtF c34_6 c34_6_e (c34_6_pts ++ []) (noF, noM, 128, 0, 4) 3000 c34_6_p0 = true := by decide +kernel
set_option maxRecDepth 100000 in
theorem c34_6_v : ValidC PPk c34_6 := ct_ok fpk ⟨noF_ok, noM_ok⟩ (d := 56) (ext := []) (pts := c34_6_pts) (env := c34_6_e) rfl (List.forall_mem_cons.mpr ⟨⟨c35_6_v, Nat.le_of_ble_eq_true rfl⟩, List.forall_mem_cons.mpr ⟨⟨c40_0_v, Nat.le_of_ble_eq_true rfl⟩, List.forall_mem_cons.mpr ⟨⟨c44_0_v, Nat.le_of_ble_eq_true rfl⟩, fun _ h => (by cases h)⟩⟩⟩) ext_nil (fun q h => (by cases h)) (enF c34_6_k) (List.forall_mem_cons.mpr ⟨ptF c34_6_k0, fun _ h => (by cases h)⟩)

noncomputable def c45_7 : Ct := (45, 58, (4, [(0, (.ofNat 0), (.ofNat 60)), (1, (.negSucc 2147483647), (.ofNat 2147483647)), (2, (.ofNat 0), (.ofNat 60)), (3, (.ofNat 0), (.ofNat 60))], [((.ofNat 1), [(0, (.negSucc 0)), (2, (.ofNat 1))])], [.inr (.inl (some 0)), .inl (false, ((.ofNat 1), []))], [zc222,
    zc223,
    zc105,
    .inr (1, .inr (.inl 60))], []),
  [((7, [(4, (.negSucc 2147483647), (.ofNat 2147483647)), (5, (.ofNat 0), (.ofNat 60)), (6, (.ofNat 0), (.ofNat 60))], [], [], [zc231,
    zc223,
    zc105,
    .inr (1, .inr (.inl 60))], []), 0, 0)])
noncomputable def c45_7_e : List Ct := [c34_6, c40_0, c43_0]
noncomputable def c45_7_pts : List PE := []
set_option maxRecDepth 100000 in
theorem c45_7_k : enCtF c45_7 c45_7_e (c45_7_pts ++ []) (none) noH 3000 = true := by decide +kernel
set_option maxRecDepth 100000 in
theorem c45_7_v : ValidC PPk c45_7 := ct_ok fpk noH_ok (d := 57) (ext := []) (pts := c45_7_pts) (env := c45_7_e) rfl (List.forall_mem_cons.mpr ⟨⟨c34_6_v, Nat.le_of_ble_eq_true rfl⟩, List.forall_mem_cons.mpr ⟨⟨c40_0_v, Nat.le_of_ble_eq_true rfl⟩, List.forall_mem_cons.mpr ⟨⟨c43_0_v, Nat.le_of_ble_eq_true rfl⟩, fun _ h => (by cases h)⟩⟩⟩) ext_nil (fun q h => (by cases h)) (enF c45_7_k) (fun _ h => (by cases h))

noncomputable def c41_14 : Ct := (41, 59, (5, [(0, (.negSucc 2147483647), (.ofNat 2147483647)), (1, (.ofNat 0), (.ofNat 60)), (2, (.negSucc 2147483647), (.ofNat 2147483647)), (3, (.ofNat 0), (.ofNat 60)), (4, (.ofNat 0), (.ofNat 60))], [((.ofNat 1), [(1, (.negSucc 0)), (3, (.ofNat 1))])], [.inr (.inl (some 0)), .inl (false, ((.ofNat 0), [(0, (.ofNat 1))])), .inl (false, ((.ofNat 1), []))], [zc229,
    zc223,
    zc105,
    .inr (1, .inr (.inl 60))], []),
  [((8, [(5, (.negSucc 2147483647), (.ofNat 2147483647)), (6, (.ofNat 0), (.ofNat 60)), (7, (.ofNat 0), (.ofNat 60))], [], [], [zc232,
    zc223,
    zc105,
    .inr (1, .inr (.inl 60))], []), 0, 0)])
noncomputable def c41_14_e : List Ct := [c42_0, c43_0, c44_0, c45_7]
noncomputable def c41_14_pts : List PE := []
set_option maxRecDepth 100000 in
theorem c41_14_k : enCtF c41_14 c41_14_e (c41_14_pts ++ []) (none) noH 3000 = true := by decide +kernel
set_option maxRecDepth 100000 in
theorem c41_14_v : ValidC PPk c41_14 := ct_ok fpk noH_ok (d := 58) (ext := []) (pts := c41_14_pts) (env := c41_14_e) rfl (List.forall_mem_cons.mpr ⟨⟨c42_0_v, Nat.le_of_ble_eq_true rfl⟩, List.forall_mem_cons.mpr ⟨⟨c43_0_v, Nat.le_of_ble_eq_true rfl⟩, List.forall_mem_cons.mpr ⟨⟨c44_0_v, Nat.le_of_ble_eq_true rfl⟩, List.forall_mem_cons.mpr ⟨⟨c45_7_v, Nat.le_of_ble_eq_true rfl⟩, fun _ h => (by cases h)⟩⟩⟩⟩) ext_nil (fun q h => (by cases h)) (enF c41_14_k) (fun _ h => (by cases h))

noncomputable def c41_15 : Ct := (41, 2, (6, [(0, (.ofNat 0), (.ofNat 60)), (1, (.negSucc 2147483647), (.ofNat 2147483647)), (2, (.ofNat 0), (.ofNat 60)), (3, (.ofNat 0), (.ofNat 60))], [], [.inr (.inl (some 0)), .inl (false, ((.negSucc 0), [])), .inl (false, ((.ofNat 1), []))], [zc222,
    zc227,
    zc156,
    .inr (1, .inr (.inl 60))], []),
  [((7, [(6, (.negSucc 2147483647), (.ofNat 2147483647))], [], [], [zc228,
    zc227,
    zc156,
    .inr (1, .inr (.inl 60))], []), 0, 0)])
noncomputable def c41_15_e : List Ct := [c43_0]
noncomputable def c41_15_pts : List PE := []
set_option maxRecDepth 100000 in
theorem c41_15_k : enCtF c41_15 c41_15_e (c41_15_pts ++ []) (none) noH 3000 = true := by decide +kernel
set_option maxRecDepth 100000 in
theorem c41_15_v : ValidC PPk c41_15 := ct_ok fpk noH_ok (d := 1) (ext := []) (pts := c41_15_pts) (env := c41_15_e) rfl (List.forall_mem_cons.mpr ⟨⟨c43_0_v, Nat.le_of_ble_eq_true rfl⟩, fun _ h => (by cases h)⟩) ext_nil (fun q h => (by cases h)) (enF c41_15_k) (fun _ h => (by cases h))

noncomputable def c39_7 : Ct := (39, 60, (4, [(0, (.ofNat 0), (.ofNat 60)), (1, (.negSucc 2147483647), (.ofNat 2147483647)), (2, (.ofNat 0), (.ofNat 60)), (3, (.ofNat 0), (.ofNat 60))], [], [.inr (.inl (some 0)), .inl (false, ((.ofNat 1), []))], [zc222,
    zc223,
    zc105,
    .inr (1, .inr (.inl 60))], []),
  [((7, [(4, (.negSucc 2147483647), (.ofNat 2147483647)), (5, (.ofNat 0), (.ofNat 60)), (6, (.ofNat 0), (.ofNat 60))], [], [], [zc231,
    zc223,
    zc105,
    .inr (1, .inr (.inl 60))], []), 0, 0)])
noncomputable def c39_7_e : List Ct := [c40_0, c41_14, c41_15, c44_0]
noncomputable def c39_7_p0 : PE := (13, [0, 1, 2, 3, 4], (7, [(0, (.ofNat 1), (.ofNat 60)), (1, (.negSucc 0), (.negSucc 0)), (2, (.ofNat 0), (.ofNat 60)), (3, (.ofNat 0), (.ofNat 60)), (4, (.ofNat 0), (.ofNat 127)), (5, (.ofNat 0), (.ofNat 60)), (6, (.ofNat 0), (.ofNat 59))], [((.ofNat 1), [(0, (.negSucc 0)), (6, (.ofNat 1))])], [.inr (.inl (some 0)), .inl (false, ((.ofNat 1), [])), .inl (false, ((.ofNat 0), [(2, (.ofNat 1))])), .inl (false, ((.ofNat 0), [(4, (.ofNat 1))])), .inl (false, ((.ofNat 0), [(5, (.ofNat 1))]))], [zc225,
    zc223,
    zc105,
    .inr (1, .inr (.inl 60))], []), symsL 4 0, some ((.ofNat 182), [(5, (.negSucc 0))]), 0, 0)
noncomputable def c39_7_p1 : PE := (13, [0, 1, 2, 3, 4], (6, [(0, (.ofNat 0), (.ofNat 60)), (1, (.negSucc 2147483647), (.ofNat 2147483647)), (2, (.ofNat 0), (.ofNat 60)), (3, (.ofNat 0), (.ofNat 60)), (4, (.ofNat 0), (.ofNat 60)), (5, (.ofNat 0), (.ofNat 60))], [], [.inr (.inl (some 0)), .inl (false, ((.ofNat 1), [])), .inl (false, ((.ofNat 0), [(2, (.ofNat 1))])), .inl (false, ((.negSucc 0), [])), .inl (false, ((.ofNat 0), [(4, (.ofNat 1))]))], [zc224,
    zc223,
    zc105,
    .inr (1, .inr (.inl 60))], []), symsL 4 0, some ((.ofNat 182), [(4, (.negSucc 0))]), 0, 0)
noncomputable def c39_7_p2 : PE := (71, [0, 1, 2, 3, 4, 5], (10, [(0, (.ofNat 0), (.ofNat 60)), (1, (.negSucc 2147483647), (.ofNat 2147483647)), (2, (.ofNat 0), (.ofNat 60)), (3, (.ofNat 0), (.ofNat 60)), (4, (.negSucc 0), (.ofNat 127)), (5, (.ofNat 0), (.ofNat 60)), (6, (.negSucc 0), (.ofNat 59)), (7, (.negSucc 2147483647), (.ofNat 2147483647)), (8, (.ofNat 0), (.ofNat 60)), (9, (.ofNat 0), (.ofNat 60))], [], [.inr (.inl (some 0)), .inl (false, ((.ofNat 1), [])), .inl (false, ((.ofNat 0), [(2, (.ofNat 1))])), .inl (false, ((.ofNat 0), [(4, (.ofNat 1))])), .inl (false, ((.ofNat 0), [(5, (.ofNat 1))])), .inl (false, ((.ofNat 0), [(6, (.ofNat 1))]))], [zc233,
    zc223,
    zc105,
    .inr (1, .inr (.inl 60))], []), symsL 4 0, some ((.ofNat 62), [(6, (.ofNat 1))]), 0, 0)
noncomputable def c39_7_pts : List PE := [c39_7_p0, c39_7_p1, c39_7_p2]
set_option maxRecDepth 100000 in
theorem c39_7_k : enCtF c39_7 c39_7_e (c39_7_pts ++ []) (none) (noF, noM, 2361183241434822615040, 0, 4) 3000 = true := by decide +kernel
set_option maxRecDepth 100000 in
theorem c39_7_k0 : ptCtF c39_7 c39_7_e (c39_7_pts ++ []) (noF, noM, 2361183241434822615040, 0, 4) 3000 c39_7_p0 = true := by decide +kernel
set_option maxRecDepth 100000 in
theorem c39_7_k1 : ptCtF c39_7 c39_7_e (c39_7_pts ++ []) (noF, noM, 2361183241434822615040, 0, 4) 3000 c39_7_p1 = true := by decide +kernel
set_option maxRecDepth 100000 in
theorem c39_7_k2 : ptCtF c39_7 c39_7_e (c39_7_pts ++ []) (noF, noM, 2361183241434822615040, 0, 4) 3000 c39_7_p2 = true := by decide +kernel
set_option maxRecDepth 100000 in
theorem c39_7_v : ValidC PPk c39_7 := ct_ok fpk ⟨noF_ok, noM_ok⟩ (d := 59) (ext := []) (pts := c39_7_pts) (env := c39_7_e) rfl (List.forall_mem_cons.mpr ⟨⟨c40_0_v, Nat.le_of_ble_eq_true rfl⟩, List.forall_mem_cons.mpr ⟨⟨c41_14_v, Nat.le_of_ble_eq_true rfl⟩, List.forall_mem_cons.mpr ⟨⟨c41_15_v, Nat.le_of_ble_eq_true rfl⟩, List.forall_mem_cons.mpr ⟨⟨c44_0_v, Nat.le_of_ble_eq_true rfl⟩, fun _ h => (by cases h)⟩⟩⟩⟩) ext_nil (fun q h => (by cases h)) (enF c39_7_k) (List.forall_mem_cons.mpr ⟨ptF c39_7_k0, List.forall_mem_cons.mpr ⟨ptF c39_7_k1, List.forall_mem_cons.mpr ⟨ptF c39_7_k2, fun _ h => (by cases h)⟩⟩⟩)

noncomputable def c38_7 : Ct := (38, 61, (4, [(0, (.ofNat 0), (.ofNat 60)), (1, (.negSucc 2147483647), (.ofNat 2147483647)), (2, (.ofNat 0), (.ofNat 60)), (3, (.ofNat 0), (.ofNat 60))], [], [.inr (.inl (some 0)), .inl (false, ((.ofNat 1), []))], [zc222,
    zc223,
    zc105,
    .inr (1, .inr (.inl 60))], []),
  [((7, [(4, (.negSucc 2147483647), (.ofNat 2147483647)), (5, (.ofNat 0), (.ofNat 60)), (6, (.ofNat 0), (.ofNat 60))], [], [], [zc231,
    zc223,
    zc105,
    .inr (1, .inr (.inl 60))], []), 0, 0)])
noncomputable def c38_7_e : List Ct := [c39_7, c40_0, c44_0]
noncomputable def c38_7_p0 : PE := (7, [0, 1, 2], (7, [(0, (.ofNat 0), (.ofNat 60)), (1, (.negSucc 2147483647), (.ofNat 2147483647)), (2, (.ofNat 0), (.ofNat 60)), (3, (.ofNat 0), (.ofNat 60)), (4, (.negSucc 2147483647), (.ofNat 2147483647)), (5, (.ofNat 0), (.ofNat 60)), (6, (.ofNat 0), (.ofNat 60))], [], [.inr (.inl (some 0)), .inl (false, ((.ofNat 1), [])), .inl (false, ((.ofNat 0), []))], [zc231,
    zc223,
    zc105,
    .inr (1, .inr (.inl 60))], []), symsL 4 0, some ((.ofNat 121), []), 0, 0)
noncomputable def c38_7_p1 : PE := (7, [0, 1, 2, 3], (9, [(0, (.ofNat 1), (.ofNat 60)), (1, (.negSucc 2147483647), (.ofNat 2147483647)), (2, (.ofNat 0), (.ofNat 60)), (3, (.ofNat 0), (.ofNat 60)), (4, (.ofNat 1), (.ofNat 60)), (5, (.ofNat 42), (.ofNat 47)), (6, (.negSucc 2147483647), (.ofNat 2147483647)), (7, (.ofNat 0), (.ofNat 60)), (8, (.ofNat 1), (.ofNat 60))], [], [.inr (.inl (some 0)), .inl (false, ((.ofNat 1), [])), .inl (false, ((.ofNat 0), [(4, (.ofNat 1))])), .inl (false, ((.ofNat 0), [(5, (.ofNat 1))]))], [zc234,
    zc223,
    zc105,
    .inr (1, .inr (.inl 60))], []), symsL 4 0, some ((.ofNat 121), [(4, (.negSucc 0))]), 0, 0)
noncomputable def c38_7_pts : List PE := [c38_7_p0, c38_7_p1]
set_option maxRecDepth 100000 in
theorem c38_7_k : enCtF c38_7 c38_7_e (c38_7_pts ++ []) (none) (noF, noM, 128, 0, 4) 3000 = true := by decide +kernel
set_option maxRecDepth 100000 in
theorem c38_7_k0 : ptCtF c38_7 c38_7_e (c38_7_pts ++ []) (noF, noM, 128, 0, 4) 3000 c38_7_p0 = true := by decide +kernel
set_option maxRecDepth 100000 in
theorem c38_7_k1 : ptCtF c38_7 c38_7_e (c38_7_pts ++ []) (noF, noM, 128, 0, 4) 3000 c38_7_p1 = true := by decide +kernel
set_option maxRecDepth 100000 in
theorem c38_7_v : ValidC PPk c38_7 := ct_ok fpk ⟨noF_ok, noM_ok⟩ (d := 60) (ext := []) (pts := c38_7_pts) (env := c38_7_e) rfl (List.forall_mem_cons.mpr ⟨⟨c39_7_v, Nat.le_of_ble_eq_true rfl⟩, List.forall_mem_cons.mpr ⟨⟨c40_0_v, Nat.le_of_ble_eq_true rfl⟩, List.forall_mem_cons.mpr ⟨⟨c44_0_v, Nat.le_of_ble_eq_true rfl⟩, fun _ h => (by cases h)⟩⟩⟩) ext_nil (fun q h => (by cases h)) (enF c38_7_k) (List.forall_mem_cons.mpr ⟨ptF c38_7_k0, List.forall_mem_cons.mpr ⟨ptF c38_7_k1, fun _ h => (by cases h)⟩⟩)

noncomputable def c37_7 : Ct := (37, 62, (4, [(0, (.ofNat 0), (.ofNat 60)), (1, (.negSucc 2147483647), (.ofNat 2147483647)), (2, (.ofNat 0), (.ofNat 60)), (3, (.ofNat 0), (.ofNat 60))], [], [.inr (.inl (some 0)), .inl (false, ((.ofNat 1), []))], [zc222,
    zc223,
    zc105,
    .inr (1, .inr (.inl 60))], []),
  [((7, [(4, (.negSucc 2147483647), (.ofNat 2147483647)), (5, (.ofNat 0), (.ofNat 60)), (6, (.ofNat 0), (.ofNat 60))], [], [], [zc231,
    zc223,
    zc105,
    .inr (1, .inr (.inl 60))], []), 0, 0)])
noncomputable def c37_7_e : List Ct := [c38_7, c40_0, c44_0]
noncomputable def c37_7_p0 : PE := (7, [0, 1, 2], (7, [(0, (.ofNat 0), (.ofNat 60)), (1, (.negSucc 2147483647), (.ofNat 2147483647)), (2, (.ofNat 0), (.ofNat 60)), (3, (.ofNat 0), (.ofNat 60)), (4, (.negSucc 2147483647), (.ofNat 2147483647)), (5, (.ofNat 0), (.ofNat 60)), (6, (.ofNat 0), (.ofNat 60))], [], [.inr (.inl (some 0)), .inl (false, ((.ofNat 1), [])), .inl (false, ((.ofNat 0), []))], [zc231,
    zc223,
    zc105,
    .inr (1, .inr (.inl 60))], []), symsL 4 0, some ((.ofNat 121), []), 0, 0)
noncomputable def c37_7_p1 : PE := (7, [0, 1, 2, 3], (9, [(0, (.ofNat 1), (.ofNat 60)), (1, (.negSucc 2147483647), (.ofNat 2147483647)), (2, (.ofNat 0), (.ofNat 60)), (3, (.ofNat 0), (.ofNat 60)), (4, (.ofNat 1), (.ofNat 60)), (5, (.ofNat 43), (.ofNat 45)), (6, (.negSucc 2147483647), (.ofNat 2147483647)), (7, (.ofNat 0), (.ofNat 60)), (8, (.ofNat 1), (.ofNat 60))], [], [.inr (.inl (some 0)), .inl (false, ((.ofNat 1), [])), .inl (false, ((.ofNat 0), [(4, (.ofNat 1))])), .inl (false, ((.ofNat 0), [(5, (.ofNat 1))]))], [zc234,
    zc223,
    zc105,
    .inr (1, .inr (.inl 60))], []), symsL 4 0, some ((.ofNat 121), [(4, (.negSucc 0))]), 0, 0)
noncomputable def c37_7_pts : List PE := [c37_7_p0, c37_7_p1]
set_option maxRecDepth 100000 in
theorem c37_7_k : enCtF c37_7 c37_7_e (c37_7_pts ++ []) (none) (noF, noM, 128, 0, 4) 3000 = true := by decide +kernel
set_option maxRecDepth 100000 in
theorem c37_7_k0 : ptCtF c37_7 c37_7_e (c37_7_pts ++ []) (noF, noM, 128, 0, 4) 3000 c37_7_p0 = true := by decide +kernel
set_option maxRecDepth 100000 in
theorem c37_7_k1 : ptCtF c37_7 c37_7_e (c37_7_pts ++ []) (noF, noM, 128, 0, 4) 3000 c37_7_p1 = true := by decide +kernel
set_option maxRecDepth 100000 in
theorem c37_7_v : ValidC PPk c37_7 := ct_ok fpk ⟨noF_ok, noM_ok⟩ (d := 61) (ext := []) (pts := c37_7_pts) (env := c37_7_e) rfl (List.forall_mem_cons.mpr ⟨⟨c38_7_v, Nat.le_of_ble_eq_true rfl⟩, List.forall_mem_cons.mpr ⟨⟨c40_0_v, Nat.le_of_ble_eq_true rfl⟩, List.forall_mem_cons.mpr ⟨⟨c44_0_v, Nat.le_of_ble_eq_true rfl⟩, fun _ h => (by cases h)⟩⟩⟩) ext_nil (fun q h => (by cases h)) (enF c37_7_k) (List.forall_mem_cons.mpr ⟨ptF c37_7_k0, List.forall_mem_cons.mpr ⟨ptF c37_7_k1, fun _ h => (by cases h)⟩⟩)

noncomputable def c36_7 : Ct := (36, 63, (4, [(0, (.ofNat 0), (.ofNat 60)), (1, (.negSucc 2147483647), (.ofNat 2147483647)), (2, (.ofNat 0), (.ofNat 60)), (3, (.ofNat 0), (.ofNat 60))], [], [.inr (.inl (some 0)), .inl (false, ((.ofNat 1), []))], [zc222,
    zc223,
    zc105,
    .inr (1, .inr (.inl 60))], []),
  [((7, [(4, (.negSucc 2147483647), (.ofNat 2147483647)), (5, (.ofNat 0), (.ofNat 60)), (6, (.ofNat 0), (.ofNat 60))], [], [], [zc231,
    zc223,
    zc105,
    .inr (1, .inr (.inl 60))], []), 0, 0)])
noncomputable def c36_7_e : List Ct := [c37_7, c40_0, c44_0]
noncomputable def c36_7_pts : List PE := []
set_option maxRecDepth 100000 in
theorem c36_7_k : enCtF c36_7 c36_7_e (c36_7_pts ++ []) (none) noH 3000 = true := by decide +kernel
set_option maxRecDepth 100000 in
theorem c36_7_v : ValidC PPk c36_7 := ct_ok fpk noH_ok (d := 62) (ext := []) (pts := c36_7_pts) (env := c36_7_e) rfl (List.forall_mem_cons.mpr ⟨⟨c37_7_v, Nat.le_of_ble_eq_true rfl⟩, List.forall_mem_cons.mpr ⟨⟨c40_0_v, Nat.le_of_ble_eq_true rfl⟩, List.forall_mem_cons.mpr ⟨⟨c44_0_v, Nat.le_of_ble_eq_true rfl⟩, fun _ h => (by cases h)⟩⟩⟩) ext_nil (fun q h => (by cases h)) (enF c36_7_k) (fun _ h => (by cases h))

noncomputable def c35_7 : Ct := (35, 64, (4, [(0, (.ofNat 0), (.ofNat 60)), (1, (.negSucc 2147483647), (.ofNat 2147483647)), (2, (.ofNat 0), (.ofNat 60)), (3, (.ofNat 0), (.ofNat 60))], [], [.inr (.inl (some 0)), .inl (false, ((.ofNat 1), []))], [zc222,
    zc223,
    zc105,
    .inr (1, .inr (.inl 60))], []),
  [((7, [(4, (.negSucc 2147483647), (.ofNat 2147483647)), (5, (.ofNat 0), (.ofNat 60)), (6, (.ofNat 0), (.ofNat 60))], [], [], [zc231,
    zc223,
    zc105,
    .inr (1, .inr (.inl 60))], []), 0, 0)])
noncomputable def c35_7_e : List Ct := [c36_7, c40_0, c44_0]
noncomputable def c35_7_p0 : PE := (7, [0, 1, 2], (8, [(0, (.ofNat 0), (.ofNat 60)), (1, (.negSucc 2147483647), (.ofNat 2147483647)), (2, (.ofNat 0), (.ofNat 60)), (3, (.ofNat 0), (.ofNat 60)), (4, (.ofNat 0), (.ofNat 60)), (5, (.negSucc 2147483647), (.ofNat 2147483647)), (6, (.ofNat 0), (.ofNat 60)), (7, (.ofNat 0), (.ofNat 60))], [], [.inr (.inl (some 0)), .inl (false, ((.ofNat 1), [])), .inl (false, ((.ofNat 0), [(4, (.ofNat 1))]))], [zc235,
    zc223,
    zc105,
    .inr (1, .inr (.inl 60))], []), symsL 4 0, some ((.ofNat 121), [(4, (.negSucc 0))]), 0, 0)
noncomputable def c35_7_pts : List PE := [c35_7_p0]
set_option maxRecDepth 100000 in
theorem c35_7_k : enCtF c35_7 c35_7_e (c35_7_pts ++ []) (none) (noF, noM, 128, 0, 4) 3000 = true := by decide +kernel
set_option maxRecDepth 100000 in
theorem c35_7_k0 : ptCtF c35_7 c35_7_e (c35_7_pts ++ []) (noF, noM, 128, 0, 4) 3000 c35_7_p0 = true := by decide +kernel
set_option maxRecDepth 100000 in
theorem c35_7_v : ValidC PPk c35_7 := ct_ok fpk ⟨noF_ok, noM_ok⟩ (d := 63) (ext := []) (pts := c35_7_pts) (env := c35_7_e) rfl (List.forall_mem_cons.mpr ⟨⟨c36_7_v, Nat.le_of_ble_eq_true rfl⟩, List.forall_mem_cons.mpr ⟨⟨c40_0_v, Nat.le_of_ble_eq_true rfl⟩, List.forall_mem_cons.mpr ⟨⟨c44_0_v, Nat.le_of_ble_eq_true rfl⟩, fun _ h => (by cases h)⟩⟩⟩) ext_nil (fun q h => (by cases h)) (enF c35_7_k) (List.forall_mem_cons.mpr ⟨ptF c35_7_k0, fun _ h => (by cases h)⟩)

noncomputable def c34_7 : Ct := (34, 65, (4, [(0, (.ofNat 0), (.ofNat 60)), (1, (.negSucc 2147483647), (.ofNat 2147483647)), (2, (.ofNat 0), (.ofNat 60)), (3, (.ofNat 0), (.ofNat 60))], [], [.inr (.inl (some 0)), .inl (false, ((.ofNat 1), []))], [zc222,
    zc223,
    zc105,
    .inr (1, .inr (.inl 60))], []),
  [((7, [(4, (.negSucc 2147483647), (.ofNat 2147483647)), (5, (.ofNat 0), (.ofNat 60)), (6, (.ofNat 0), (.ofNat 60))], [], [], [zc231,
    zc223,
    zc105,
    .inr (1, .inr (.inl 60))], []), 0, 0)])
noncomputable def c34_7_e : List Ct := [c35_7, c40_0, c44_0]
noncomputable def c34_7_p0 : PE := (7, [0, 1, 2], (8, [(0, (.ofNat 0), (.ofNat 60)), (1, (.negSucc 2147483647), (.ofNat 2147483647)), (2, (.ofNat 0), (.ofNat 60)), (3, (.ofNat 0), (.ofNat 60)), (4, (.ofNat 0), (.ofNat 60)), (5, (.negSucc 2147483647), (.ofNat 2147483647)), (6, (.ofNat 0), (.ofNat 60)), (7, (.ofNat 0), (.ofNat 60))], [], [.inr (.inl (some 0)), .inl (false, ((.ofNat 1), [])), .inl (false, ((.ofNat 0), [(4, (.ofNat 1))]))], [zc235,
    zc223,
    zc105,
    .inr (1, .inr (.inl 60))], []), symsL 4 0, some ((.ofNat 121), [(4, (.negSucc 0))]), 0, 0)
noncomputable def c34_7_pts : List PE := [c34_7_p0]
set_option maxRecDepth 100000 in
theorem c34_7_k : enCtF c34_7 c34_7_e (c34_7_pts ++ []) (none) (noF, noM, 128, 0, 4) 3000 = true := by decide +kernel
set_option maxRecDepth 100000 in
theorem c34_7_k0 : ptCtF c34_7 c34_7_e (c34_7_pts ++ []) (noF, noM, 128, 0, 4) 3000 c34_7_p0 = true := by decide +kernel
set_option maxRecDepth 100000 in
theorem c34_7_v : ValidC PPk c34_7 := ct_ok fpk ⟨noF_ok, noM_ok⟩ (d := 64) (ext := []) (pts := c34_7_pts) (env := c34_7_e) rfl (List.forall_mem_cons.mpr ⟨⟨c35_7_v, Nat.le_of_ble_eq_true rfl⟩, List.forall_mem_cons.mpr ⟨⟨c40_0_v, Nat.le_of_ble_eq_true rfl⟩, List.forall_mem_cons.mpr ⟨⟨c44_0_v, Nat.le_of_ble_eq_true rfl⟩, fun _ h => (by cases h)⟩⟩⟩) ext_nil (fun q h => (by cases h)) (enF c34_7_k) (List.forall_mem_cons.mpr ⟨ptF c34_7_k0, fun _ h => (by cases h)⟩)

noncomputable def c45_8 : Ct := (45, 66, (4, [(0, (.ofNat 0), (.ofNat 60)), (1, (.negSucc 2147483647), (.ofNat 2147483647)), (2, (.ofNat 0), (.ofNat 60)), (3, (.ofNat 0), (.ofNat 60))], [((.ofNat 1), [(0, (.negSucc 0)), (2, (.ofNat 1))])], [.inr (.inl (some 0)), .inl (false, ((.ofNat 0), []))], [zc222,
    zc223,
    zc105,
    .inr (1, .inr (.inl 60))], []),
  [((7, [(4, (.negSucc 2147483647), (.ofNat 2147483647)), (5, (.ofNat 0), (.ofNat 60)), (6, (.ofNat 0), (.ofNat 60))], [], [], [zc231,
    zc223,
    zc105,
    .inr (1, .inr (.inl 60))], []), 0, 0)])
noncomputable def c45_8_e : List Ct := [c34_7, c40_0, c43_0]
noncomputable def c45_8_pts : List PE := []
set_option maxRecDepth 100000 in
theorem c45_8_k : enCtF c45_8 c45_8_e (c45_8_pts ++ []) (none) noH 3000 = true := by decide +kernel
set_option maxRecDepth 100000 in
theorem c45_8_v : ValidC PPk c45_8 := ct_ok fpk noH_ok (d := 65) (ext := []) (pts := c45_8_pts) (env := c45_8_e) rfl (List.forall_mem_cons.mpr ⟨⟨c34_7_v, Nat.le_of_ble_eq_true rfl⟩, List.forall_mem_cons.mpr ⟨⟨c40_0_v, Nat.le_of_ble_eq_true rfl⟩, List.forall_mem_cons.mpr ⟨⟨c43_0_v, Nat.le_of_ble_eq_true rfl⟩, fun _ h => (by cases h)⟩⟩⟩) ext_nil (fun q h => (by cases h)) (enF c45_8_k) (fun _ h => (by cases h))

noncomputable def c41_16 : Ct := (41, 67, (5, [(0, (.negSucc 2147483647), (.ofNat 2147483647)), (1, (.ofNat 0), (.ofNat 60)), (2, (.negSucc 2147483647), (.ofNat 2147483647)), (3, (.ofNat 0), (.ofNat 60)), (4, (.ofNat 0), (.ofNat 60))], [((.ofNat 1), [(1, (.negSucc 0)), (3, (.ofNat 1))])], [.inr (.inl (some 0)), .inl (false, ((.ofNat 0), [(0, (.ofNat 1))])), .inl (false, ((.ofNat 0), []))], [zc229,
    zc223,
    zc105,
    .inr (1, .inr (.inl 60))], []),
  [((8, [(5, (.negSucc 2147483647), (.ofNat 2147483647)), (6, (.ofNat 0), (.ofNat 60)), (7, (.ofNat 0), (.ofNat 60))], [], [], [zc232,
    zc223,
    zc105,
    .inr (1, .inr (.inl 60))], []), 0, 0)])
noncomputable def c41_16_e : List Ct := [c42_0, c43_0, c44_0, c45_8]
noncomputable def c41_16_pts : List PE := []
set_option maxRecDepth 100000 in
theorem c41_16_k : enCtF c41_16 c41_16_e (c41_16_pts ++ []) (none) noH 3000 = true := by decide +kernel
set_option maxRecDepth 100000 in
theorem c41_16_v : ValidC PPk c41_16 := ct_ok fpk noH_ok (d := 66) (ext := []) (pts := c41_16_pts) (env := c41_16_e) rfl (List.forall_mem_cons.mpr ⟨⟨c42_0_v, Nat.le_of_ble_eq_true rfl⟩, List.forall_mem_cons.mpr ⟨⟨c43_0_v, Nat.le_of_ble_eq_true rfl⟩, List.forall_mem_cons.mpr ⟨⟨c44_0_v, Nat.le_of_ble_eq_true rfl⟩, List.forall_mem_cons.mpr ⟨⟨c45_8_v, Nat.le_of_ble_eq_true rfl⟩, fun _ h => (by cases h)⟩⟩⟩⟩) ext_nil (fun q h => (by cases h)) (enF c41_16_k) (fun _ h => (by cases h))

noncomputable def c41_17 : Ct := (41, 2, (6, [(0, (.ofNat 0), (.ofNat 60)), (1, (.negSucc 2147483647), (.ofNat 2147483647)), (2, (.ofNat 0), (.ofNat 60)), (3, (.ofNat 0), (.ofNat 60))], [], [.inr (.inl (some 0)), .inl (false, ((.negSucc 0), [])), .inl (false, ((.ofNat 0), []))], [zc222,
    zc227,
    zc156,
    .inr (1, .inr (.inl 60))], []),
  [((7, [(6, (.negSucc 2147483647), (.ofNat 2147483647))], [], [], [zc228,
    zc227,
    zc156,
    .inr (1, .inr (.inl 60))], []), 0, 0)])
noncomputable def c41_17_e : List Ct := [c43_0]
noncomputable def c41_17_pts : List PE := []
set_option maxRecDepth 100000 in
theorem c41_17_k : enCtF c41_17 c41_17_e (c41_17_pts ++ []) (none) noH 3000 = true := by decide +kernel
set_option maxRecDepth 100000 in
theorem c41_17_v : ValidC PPk c41_17 := ct_ok fpk noH_ok (d := 1) (ext := []) (pts := c41_17_pts) (env := c41_17_e) rfl (List.forall_mem_cons.mpr ⟨⟨c43_0_v, Nat.le_of_ble_eq_true rfl⟩, fun _ h => (by cases h)⟩) ext_nil (fun q h => (by cases h)) (enF c41_17_k) (fun _ h => (by cases h))

noncomputable def c39_8 : Ct := (39, 68, (4, [(0, (.ofNat 0), (.ofNat 60)), (1, (.negSucc 2147483647), (.ofNat 2147483647)), (2, (.ofNat 0), (.ofNat 60)), (3, (.ofNat 0), (.ofNat 60))], [], [.inr (.inl (some 0)), .inl (false, ((.ofNat 0), []))], [zc222,
    zc223,
    zc105,
    .inr (1, .inr (.inl 60))], []),
  [((7, [(4, (.negSucc 2147483647), (.ofNat 2147483647)), (5, (.ofNat 0), (.ofNat 60)), (6, (.ofNat 0), (.ofNat 60))], [], [], [zc231,
    zc223,
    zc105,
    .inr (1, .inr (.inl 60))], []), 0, 0)])
noncomputable def c39_8_e : List Ct := [c40_0, c41_16, c41_17, c44_0]
noncomputable def c39_8_p0 : PE := (13, [0, 1, 2, 3, 4], (7, [(0, (.ofNat 1), (.ofNat 60)), (1, (.negSucc 0), (.negSucc 0)), (2, (.ofNat 0), (.ofNat 60)), (3, (.ofNat 0), (.ofNat 60)), (4, (.ofNat 0), (.ofNat 127)), (5, (.ofNat 0), (.ofNat 60)), (6, (.ofNat 0), (.ofNat 59))], [((.ofNat 1), [(0, (.negSucc 0)), (6, (.ofNat 1))])], [.inr (.inl (some 0)), .inl (false, ((.ofNat 0), [])), .inl (false, ((.ofNat 0), [(2, (.ofNat 1))])), .inl (false, ((.ofNat 0), [(4, (.ofNat 1))])), .inl (false, ((.ofNat 0), [(5, (.ofNat 1))]))], [zc225,
    zc223,
    zc105,
    .inr (1, .inr (.inl 60))], []), symsL 4 0, some ((.ofNat 182), [(5, (.negSucc 0))]), 0, 0)
noncomputable def c39_8_p1 : PE := (13, [0, 1, 2, 3, 4], (6, [(0, (.ofNat 0), (.ofNat 60)), (1, (.negSucc 2147483647), (.ofNat 2147483647)), (2, (.ofNat 0), (.ofNat 60)), (3, (.ofNat 0), (.ofNat 60)), (4, (.ofNat 0), (.ofNat 60)), (5, (.ofNat 0), (.ofNat 60))], [], [.inr (.inl (some 0)), .inl (false, ((.ofNat 0), [])), .inl (false, ((.ofNat 0), [(2, (.ofNat 1))])), .inl (false, ((.negSucc 0), [])), .inl (false, ((.ofNat 0), [(4, (.ofNat 1))]))], [zc224,
    zc223,
    zc105,
    .inr (1, .inr (.inl 60))], []), symsL 4 0, some ((.ofNat 182), [(4, (.negSucc 0))]), 0, 0)
noncomputable def c39_8_p2 : PE := (71, [0, 1, 2, 3, 4, 5], (10, [(0, (.ofNat 0), (.ofNat 60)), (1, (.negSucc 2147483647), (.ofNat 2147483647)), (2, (.ofNat 0), (.ofNat 60)), (3, (.ofNat 0), (.ofNat 60)), (4, (.negSucc 0), (.ofNat 127)), (5, (.ofNat 0), (.ofNat 60)), (6, (.negSucc 0), (.ofNat 59)), (7, (.negSucc 2147483647), (.ofNat 2147483647)), (8, (.ofNat 0), (.ofNat 60)), (9, (.ofNat 0), (.ofNat 60))], [], [.inr (.inl (some 0)), .inl (false, ((.ofNat 0), [])), .inl (false, ((.ofNat 0), [(2, (.ofNat 1))])), .inl (false, ((.ofNat 0), [(4, (.ofNat 1))])), .inl (false, ((.ofNat 0), [(5, (.ofNat 1))])), .inl (false, ((.ofNat 0), [(6, (.ofNat 1))]))], [zc233,
    zc223,
    zc105,
    .inr (1, .inr (.inl 60))], []), symsL 4 0, some ((.ofNat 62), [(6, (.ofNat 1))]), 0, 0)
noncomputable def c39_8_pts : List PE := [c39_8_p0, c39_8_p1, c39_8_p2]
set_option maxRecDepth 100000 in
theorem c39_8_k : enCtF c39_8 c39_8_e (c39_8_pts ++ []) (none) (noF, noM, 2361183241434822615040, 0, 4) 3000 = true := by decide +kernel
set_option maxRecDepth 100000 in
theorem c39_8_k0 : ptCtF c39_8 c39_8_e (c39_8_pts ++ []) (noF, noM, 2361183241434822615040, 0, 4) 3000 c39_8_p0 = true := by decide +kernel
set_option maxRecDepth 100000 in
theorem c39_8_k1 : ptCtF c39_8 c39_8_e (c39_8_pts ++ []) (noF, noM, 2361183241434822615040, 0, 4) 3000 c39_8_p1 = true := by decide +kernel
set_option maxRecDepth 100000 in
theorem c39_8_k2 : ptCtF c39_8 c39_8_e (c39_8_pts ++ []) (noF, noM, 2361183241434822615040, 0, 4) 3000 c39_8_p2 = true := by decide +kernel
set_option maxRecDepth 100000 in
theorem c39_8_v : ValidC PPk c39_8 := ct_ok fpk ⟨noF_ok, noM_ok⟩ (d := 67) (ext := []) (pts := c39_8_pts) (env := c39_8_e) rfl (List.forall_mem_cons.mpr ⟨⟨c40_0_v, Nat.le_of_ble_eq_true rfl⟩, List.forall_mem_cons.mpr ⟨⟨c41_16_v, Nat.le_of_ble_eq_true rfl⟩, List.forall_mem_cons.mpr ⟨⟨c41_17_v, Nat.le_of_ble_eq_true rfl⟩, List.forall_mem_cons.mpr ⟨⟨c44_0_v, Nat.le_of_ble_eq_true rfl⟩, fun _ h => (by cases h)⟩⟩⟩⟩) ext_nil (fun q h => (by cases h)) (enF c39_8_k) (List.forall_mem_cons.mpr ⟨ptF c39_8_k0, List.forall_mem_cons.mpr ⟨ptF c39_8_k1, List.forall_mem_cons.mpr ⟨ptF c39_8_k2, fun _ h => (by cases h)⟩⟩⟩)

noncomputable def c38_8 : Ct := (38, 69, (4, [(0, (.ofNat 0), (.ofNat 60)), (1, (.negSucc 2147483647), (.ofNat 2147483647)), (2, (.ofNat 0), (.ofNat 60)), (3, (.ofNat 0), (.ofNat 60))], [], [.inr (.inl (some 0)), .inl (false, ((.ofNat 0), []))], [zc222,
    zc223,
    zc105,
    .inr (1, .inr (.inl 60))], []),
  [((7, [(4, (.negSucc 2147483647), (.ofNat 2147483647)), (5, (.ofNat 0), (.ofNat 60)), (6, (.ofNat 0), (.ofNat 60))], [], [], [zc231,
    zc223,
    zc105,
    .inr (1, .inr (.inl 60))], []), 0, 0)])
noncomputable def c38_8_e : List Ct := [c39_8, c40_0, c44_0]
noncomputable def c38_8_p0 : PE := (7, [0, 1, 2], (7, [(0, (.ofNat 0), (.ofNat 60)), (1, (.negSucc 2147483647), (.ofNat 2147483647)), (2, (.ofNat 0), (.ofNat 60)), (3, (.ofNat 0), (.ofNat 60)), (4, (.negSucc 2147483647), (.ofNat 2147483647)), (5, (.ofNat 0), (.ofNat 60)), (6, (.ofNat 0), (.ofNat 60))], [], [.inr (.inl (some 0)), .inl (false, ((.ofNat 0), [])), .inl (false, ((.ofNat 0), []))], [zc231,
    zc223,
    zc105,
    .inr (1, .inr (.inl 60))], []), symsL 4 0, some ((.ofNat 121), []), 0, 0)
noncomputable def c38_8_p1 : PE := (7, [0, 1, 2, 3], (9, [(0, (.ofNat 1), (.ofNat 60)), (1, (.negSucc 2147483647), (.ofNat 2147483647)), (2, (.ofNat 0), (.ofNat 60)), (3, (.ofNat 0), (.ofNat 60)), (4, (.ofNat 1), (.ofNat 60)), (5, (.ofNat 42), (.ofNat 47)), (6, (.negSucc 2147483647), (.ofNat 2147483647)), (7, (.ofNat 0), (.ofNat 60)), (8, (.ofNat 1), (.ofNat 60))], [], [.inr (.inl (some 0)), .inl (false, ((.ofNat 0), [])), .inl (false, ((.ofNat 0), [(4, (.ofNat 1))])), .inl (false, ((.ofNat 0), [(5, (.ofNat 1))]))], [zc234,
    zc223,
    zc105,
    .inr (1, .inr (.inl 60))], []), symsL 4 0, some ((.ofNat 121), [(4, (.negSucc 0))]), 0, 0)
noncomputable def c38_8_pts : List PE := [c38_8_p0, c38_8_p1]
set_option maxRecDepth 100000 in
theorem c38_8_k : enCtF c38_8 c38_8_e (c38_8_pts ++ []) (none) (noF, noM, 128, 0, 4) 3000 = true := by decide +kernel
set_option maxRecDepth 100000 in
theorem c38_8_k0 : ptCtF c38_8 c38_8_e (c38_8_pts ++ []) (noF, noM, 128, 0, 4) 3000 c38_8_p0 = true := by decide +kernel
set_option maxRecDepth 100000 in
theorem c38_8_k1 : ptCtF c38_8 c38_8_e (c38_8_pts ++ []) (noF, noM, 128, 0, 4) 3000 c38_8_p1 = true := by decide +kernel
set_option maxRecDepth 100000 in
theorem c38_8_v : ValidC PPk c38_8 := ct_ok fpk ⟨noF_ok, noM_ok⟩ (d := 68) (ext := []) (pts := c38_8_pts) (env := c38_8_e) rfl (List.forall_mem_cons.mpr ⟨⟨c39_8_v, Nat.le_of_ble_eq_true rfl⟩, List.forall_mem_cons.mpr ⟨⟨c40_0_v, Nat.le_of_ble_eq_true rfl⟩, List.forall_mem_cons.mpr ⟨⟨c44_0_v, Nat.le_of_ble_eq_true rfl⟩, fun _ h => (by cases h)⟩⟩⟩) ext_nil (fun q h => (by cases h)) (enF c38_8_k) (List.forall_mem_cons.mpr ⟨ptF c38_8_k0, List.forall_mem_cons.mpr ⟨ptF c38_8_k1, fun _ h => (by cases h)⟩⟩)

noncomputable def c37_8 : Ct := (37, 70, (4, [(0, (.ofNat 0), (.ofNat 60)), (1, (.negSucc 2147483647), (.ofNat 2147483647)), (2, (.ofNat 0), (.ofNat 60)), (3, (.ofNat 0), (.ofNat 60))], [], [.inr (.inl (some 0)), .inl (false, ((.ofNat 0), []))], [zc222,
    zc223,
    zc105,
    .inr (1, .inr (.inl 60))], []),
  [((7, [(4, (.negSucc 2147483647), (.ofNat 2147483647)), (5, (.ofNat 0), (.ofNat 60)), (6, (.ofNat 0), (.ofNat 60))], [], [], [zc231,
    zc223,
    zc105,
    .inr (1, .inr (.inl 60))], []), 0, 0)])
noncomputable def c37_8_e : List Ct := [c38_8, c40_0, c44_0]
noncomputable def c37_8_p0 : PE := (7, [0, 1, 2], (7, [(0, (.ofNat 0), (.ofNat 60)), (1, (.negSucc 2147483647), (.ofNat 2147483647)), (2, (.ofNat 0), (.ofNat 60)), (3, (.ofNat 0), (.ofNat 60)), (4, (.negSucc 2147483647), (.ofNat 2147483647)), (5, (.ofNat 0), (.ofNat 60)), (6, (.ofNat 0), (.ofNat 60))], [], [.inr (.inl (some 0)), .inl (false, ((.ofNat 0), [])), .inl (false, ((.ofNat 0), []))], [zc231,
    zc223,
    zc105,
    .inr (1, .inr (.inl 60))], []), symsL 4 0, some ((.ofNat 121), []), 0, 0)
noncomputable def c37_8_p1 : PE := (7, [0, 1, 2, 3], (9, [(0, (.ofNat 1), (.ofNat 60)), (1, (.negSucc 2147483647), (.ofNat 2147483647)), (2, (.ofNat 0), (.ofNat 60)), (3, (.ofNat 0), (.ofNat 60)), (4, (.ofNat 1), (.ofNat 60)), (5, (.ofNat 43), (.ofNat 45)), (6, (.negSucc 2147483647), (.ofNat 2147483647)), (7, (.ofNat 0), (.ofNat 60)), (8, (.ofNat 1), (.ofNat 60))], [], [.inr (.inl (some 0)), .inl (false, ((.ofNat 0), [])), .inl (false, ((.ofNat 0), [(4, (.ofNat 1))])), .inl (false, ((.ofNat 0), [(5, (.ofNat 1))]))], [zc234,
    zc223,
    zc105,
    .inr (1, .inr (.inl 60))], []), symsL 4 0, some ((.ofNat 121), [(4, (.negSucc 0))]), 0, 0)
noncomputable def c37_8_pts : List PE := [c37_8_p0, c37_8_p1]
set_option maxRecDepth 100000 in
theorem c37_8_k : enCtF c37_8 c37_8_e (c37_8_pts ++ []) (none) (noF, noM, 128, 0, 4) 3000 = true := by decide +kernel
set_option maxRecDepth 100000 in
theorem c37_8_k0 : ptCtF c37_8 c37_8_e (c37_8_pts ++ []) (noF, noM, 128, 0, 4) 3000 c37_8_p0 = true := by decide +kernel
set_option maxRecDepth 100000 in
theorem c37_8_k1 : ptCtF c37_8 c37_8_e (c37_8_pts ++ []) (noF, noM, 128, 0, 4) 3000 c37_8_p1 = true := by decide +kernel
set_option maxRecDepth 100000 in
theorem c37_8_v : ValidC PPk c37_8 := ct_ok fpk ⟨noF_ok, noM_ok⟩ (d := 69) (ext := []) (pts := c37_8_pts) (env := c37_8_e) rfl (List.forall_mem_cons.mpr ⟨⟨c38_8_v, Nat.le_of_ble_eq_true rfl⟩, List.forall_mem_cons.mpr ⟨⟨c40_0_v, Nat.le_of_ble_eq_true rfl⟩, List.forall_mem_cons.mpr ⟨⟨c44_0_v, Nat.le_of_ble_eq_true rfl⟩, fun _ h => (by cases h)⟩⟩⟩) ext_nil (fun q h => (by cases h)) (enF c37_8_k) (List.forall_mem_cons.mpr ⟨ptF c37_8_k0, List.forall_mem_cons.mpr ⟨ptF c37_8_k1, fun _ h => (by cases h)⟩⟩)

noncomputable def c36_8 : Ct := (36, 71, (4, [(0, (.ofNat 0), (.ofNat 60)), (1, (.negSucc 2147483647), (.ofNat 2147483647)), (2, (.ofNat 0), (.ofNat 60)), (3, (.ofNat 0), (.ofNat 60))], [], [.inr (.inl (some 0)), .inl (false, ((.ofNat 0), []))], [zc222,
    zc223,
    zc105,
    .inr (1, .inr (.inl 60))], []),
  [((7, [(4, (.negSucc 2147483647), (.ofNat 2147483647)), (5, (.ofNat 0), (.ofNat 60)), (6, (.ofNat 0), (.ofNat 60))], [], [], [zc231,
    zc223,
    zc105,
    .inr (1, .inr (.inl 60))], []), 0, 0)])
noncomputable def c36_8_e : List Ct := [c37_8, c40_0, c44_0]
noncomputable def c36_8_pts : List PE := []
set_option maxRecDepth 100000 in
theorem c36_8_k : enCtF c36_8 c36_8_e (c36_8_pts ++ []) (none) noH 3000 = true := by decide +kernel
set_option maxRecDepth 100000 in
theorem c36_8_v : ValidC PPk c36_8 := ct_ok fpk noH_ok (d := 70) (ext := []) (pts := c36_8_pts) (env := c36_8_e) rfl (List.forall_mem_cons.mpr ⟨⟨c37_8_v, Nat.le_of_ble_eq_true rfl⟩, List.forall_mem_cons.mpr ⟨⟨c40_0_v, Nat.le_of_ble_eq_true rfl⟩, List.forall_mem_cons.mpr ⟨⟨c44_0_v, Nat.le_of_ble_eq_true rfl⟩, fun _ h => (by cases h)⟩⟩⟩) ext_nil (fun q h => (by cases h)) (enF c36_8_k) (fun _ h => (by cases h))

noncomputable def c35_8 : Ct := (35, 72, (4, [(0, (.ofNat 0), (.ofNat 60)), (1, (.negSucc 2147483647), (.ofNat 2147483647)), (2, (.ofNat 0), (.ofNat 60)), (3, (.ofNat 0), (.ofNat 60))], [], [.inr (.inl (some 0)), .inl (false, ((.ofNat 0), []))], [zc222,
    zc223,
    zc105,
    .inr (1, .inr (.inl 60))], []),
  [((7, [(4, (.negSucc 2147483647), (.ofNat 2147483647)), (5, (.ofNat 0), (.ofNat 60)), (6, (.ofNat 0), (.ofNat 60))], [], [], [zc231,
    zc223,
    zc105,
    .inr (1, .inr (.inl 60))], []), 0, 0)])
noncomputable def c35_8_e : List Ct := [c36_8, c40_0, c44_0]
noncomputable def c35_8_p0 : PE := (7, [0, 1, 2], (8, [(0, (.ofNat 0), (.ofNat 60)), (1, (.negSucc 2147483647), (.ofNat 2147483647)), (2, (.ofNat 0), (.ofNat 60)), (3, (.ofNat 0), (.ofNat 60)), (4, (.ofNat 0), (.ofNat 60)), (5, (.negSucc 2147483647), (.ofNat 2147483647)), (6, (.ofNat 0), (.ofNat 60)), (7, (.ofNat 0), (.ofNat 60))], [], [.inr (.inl (some 0)), .inl (false, ((.ofNat 0), [])), .inl (false, ((.ofNat 0), [(4, (.ofNat 1))]))], [zc235,
    zc223,
    zc105,
    .inr (1, .inr (.inl 60))], []), symsL 4 0, some ((.ofNat 121), [(4, (.negSucc 0))]), 0, 0)
noncomputable def c35_8_pts : List PE := [c35_8_p0]
set_option maxRecDepth 100000 in
theorem c35_8_k : enCtF c35_8 c35_8_e (c35_8_pts ++ []) (none) (noF, noM, 128, 0, 4) 3000 = true := by decide +kernel
set_option maxRecDepth 100000 in
theorem c35_8_k0 : ptCtF c35_8 c35_8_e (c35_8_pts ++ []) (noF, noM, 128, 0, 4) 3000 c35_8_p0 = true := by decide +kernel
set_option maxRecDepth 100000 in
theorem c35_8_v : ValidC PPk c35_8 := ct_ok fpk ⟨noF_ok, noM_ok⟩ (d := 71) (ext := []) (pts := c35_8_pts) (env := c35_8_e) rfl (List.forall_mem_cons.mpr ⟨⟨c36_8_v, Nat.le_of_ble_eq_true rfl⟩, List.forall_mem_cons.mpr ⟨⟨c40_0_v, Nat.le_of_ble_eq_true rfl⟩, List.forall_mem_cons.mpr ⟨⟨c44_0_v, Nat.le_of_ble_eq_true rfl⟩, fun _ h => (by cases h)⟩⟩⟩) ext_nil (fun q h => (by cases h)) (enF c35_8_k) (List.forall_mem_cons.mpr ⟨ptF c35_8_k0, fun _ h => (by cases h)⟩)

noncomputable def c34_8 : Ct := (34, 73, (4, [(0, (.ofNat 0), (.ofNat 60)), (1, (.negSucc 2147483647), (.ofNat 2147483647)), (2, (.ofNat 0), (.ofNat 60)), (3, (.ofNat 0), (.ofNat 60))], [], [.inr (.inl (some 0)), .inl (false, ((.ofNat 0), []))], [zc222,
    zc223,
    zc105,
    .inr (1, .inr (.inl 60))], []),
  [((7, [(4, (.negSucc 2147483647), (.ofNat 2147483647)), (5, (.ofNat 0), (.ofNat 60)), (6, (.ofNat 0), (.ofNat 60))], [], [], [zc231,
    zc223,
    zc105,
    .inr (1, .inr (.inl 60))], []), 0, 0)])
noncomputable def c34_8_e : List Ct := [c35_8, c40_0, c44_0]
noncomputable def c34_8_p0 : PE := (7, [0, 1, 2], (8, [(0, (.ofNat 0), (.ofNat 60)), (1, (.negSucc 2147483647), (.ofNat 2147483647)), (2, (.ofNat 0), (.ofNat 60)), (3, (.ofNat 0), (.ofNat 60)), (4, (.ofNat 0), (.ofNat 60)), (5, (.negSucc 2147483647), (.ofNat 2147483647)), (6, (.ofNat 0), (.ofNat 60)), (7, (.ofNat 0), (.ofNat 60))], [], [.inr (.inl (some 0)), .inl (false, ((.ofNat 0), [])), .inl (false, ((.ofNat 0), [(4, (.ofNat 1))]))], [zc235,
    zc223,
    zc105,
    .inr (1, .inr (.inl 60))], []), symsL 4 0, some ((.ofNat 121), [(4, (.negSucc 0))]), 0, 0)
noncomputable def c34_8_pts : List PE := [c34_8_p0]
set_option maxRecDepth 100000 in
theorem c34_8_k : enCtF c34_8 c34_8_e (c34_8_pts ++ []) (none) (noF, noM, 128, 0, 4) 3000 = true := by decide +kernel
set_option maxRecDepth 100000 in
theorem c34_8_k0 : ptCtF c34_8 c34_8_e (c34_8_pts ++ []) (noF, noM, 128, 0, 4) 3000 c34_8_p0 = true := by decide +kernel
set_option maxRecDepth 100000 in
theorem c34_8_v : ValidC PPk c34_8 := ct_ok fpk ⟨noF_ok, noM_ok⟩ (d := 72) (ext := []) (pts := c34_8_pts) (env := c34_8_e) rfl (List.forall_mem_cons.mpr ⟨⟨c35_8_v, Nat.le_of_ble_eq_true rfl⟩, List.forall_mem_cons.mpr ⟨⟨c40_0_v, Nat.le_of_ble_eq_true rfl⟩, List.forall_mem_cons.mpr ⟨⟨c44_0_v, Nat.le_of_ble_eq_true rfl⟩, fun _ h => (by cases h)⟩⟩⟩) ext_nil (fun q h => (by cases h)) (enF c34_8_k) (List.forall_mem_cons.mpr ⟨ptF c34_8_k0, fun _ h => (by cases h)⟩)

noncomputable def c33_0 : Ct := (33, 74, (4, [(0, (.ofNat 0), (.ofNat 60)), (1, (.negSucc 2147483647), (.ofNat 2147483647)), (2, (.ofNat 0), (.ofNat 60)), (3, (.ofNat 0), (.ofNat 60))], [], [.inr (.inl (some 0))], [zc222,
    zc223,
    zc105,
    .inr (1, .inr (.inl 60))], []),
  [((7, [(4, (.negSucc 2147483647), (.ofNat 2147483647)), (5, (.ofNat 0), (.ofNat 60)), (6, (.ofNat 0), (.ofNat 60))], [], [], [zc231,
    zc223,
    zc105,
    .inr (1, .inr (.inl 60))], []), 0, 0)])
noncomputable def c33_0_e : List Ct := [c34_8, c43_0]
noncomputable def c33_0_pts : List PE := []
set_option maxRecDepth 100000 in
theorem c33_0_k : enCtF c33_0 c33_0_e (c33_0_pts ++ []) (none) noH 3000 = true := by decide +kernel
set_option maxRecDepth 100000 in
theorem c33_0_v : ValidC PPk c33_0 := ct_ok fpk noH_ok (d := 73) (ext := []) (pts := c33_0_pts) (env := c33_0_e) rfl (List.forall_mem_cons.mpr ⟨⟨c34_8_v, Nat.le_of_ble_eq_true rfl⟩, List.forall_mem_cons.mpr ⟨⟨c43_0_v, Nat.le_of_ble_eq_true rfl⟩, fun _ h => (by cases h)⟩⟩) ext_nil (fun q h => (by cases h)) (enF c33_0_k) (fun _ h => (by cases h))

noncomputable def c32_0 : Ct := (32, 75, (5, [(0, (.ofNat 0), (.ofNat 127)), (1, (.ofNat 0), (.ofNat 60)), (2, (.negSucc 2147483647), (.ofNat 2147483647)), (3, (.ofNat 0), (.ofNat 60)), (4, (.ofNat 0), (.ofNat 60))], [], [.inr (.inl (some 0)), .inl (false, ((.ofNat 0), [(0, (.ofNat 1))]))], [zc229,
    zc223,
    zc105,
    .inr (1, .inr (.inl 60))], []),
  [((9, [(5, (.ofNat 1), (.ofNat 60)), (6, (.negSucc 2147483647), (.ofNat 2147483647)), (7, (.ofNat 0), (.ofNat 60)), (8, (.ofNat 0), (.ofNat 60))], [], [], [.inl (5, [.inl (false, ((.ofNat 0), [(5, (.ofNat 1))])), .inr (.inl (some 1)), .inl (false, ((.ofNat 0), [(6, (.ofNat 1))])), .inl (false, ((.ofNat 0), [(7, (.ofNat 1))])), .inl (false, ((.ofNat 0), [(8, (.ofNat 1))])), .inr (.inl (some 2)), .inr (.inl (some 3))]),
    zc223,
    zc105,
    .inr (1, .inr (.inl 60))], []), 0, 0)])
noncomputable def c32_0_e : List Ct := [c33_0]
noncomputable def c32_0_pts : List PE := []
set_option maxRecDepth 100000 in
theorem c32_0_k : enCtF c32_0 c32_0_e (c32_0_pts ++ []) (none) noH 3000 = true := by decide +kernel
set_option maxRecDepth 100000 in
theorem c32_0_v : ValidC PPk c32_0 := ct_ok fpk noH_ok (d := 74) (ext := []) (pts := c32_0_pts) (env := c32_0_e) rfl (List.forall_mem_cons.mpr ⟨⟨c33_0_v, Nat.le_of_ble_eq_true rfl⟩, fun _ h => (by cases h)⟩) ext_nil (fun q h => (by cases h)) (enF c32_0_k) (fun _ h => (by cases h))

def zc236 : AC := .inl (6, [.inl (false, ((.ofNat 0), [(36, (.ofNat 1))])), .inr (.inl (some 33)), .inr (.inl (some 34)), .inr (.inl (some 35)), .inr (.inl (some 36)), .inr (.inl (some 37))])
def zc237 : AC := .inl (7, [.inr (.inl (some 42)), .inl (false, ((.ofNat 0), [(45, (.ofNat 1))])), .inr (.inl (some 51)), .inr (.inl (some 55)), .inr (.inl (some 56)), .inl (false, ((.ofNat 0), [(46, (.ofNat 1))])), .inl (false, ((.ofNat 0), [(47, (.ofNat 1))])), .inl (false, ((.ofNat 0), [(48, (.ofNat 1))])), .inl (false, ((.ofNat 0), [(49, (.ofNat 1))])), .inl (false, ((.ofNat 0), [(50, (.ofNat 1))])), .inl (false, ((.ofNat 0), [(51, (.ofNat 1))])), .inl (false, ((.ofNat 0), [(52, (.ofNat 1))])), .inl (false, ((.ofNat 0), [(53, (.ofNat 1))])), .inl (false, ((.ofNat 0), [(54, (.ofNat 1))])), .inl (false, ((.ofNat 0), [(55, (.ofNat 1))])), .inl (false, ((.ofNat 0), [(56, (.ofNat 1))])), .inl (false, ((.ofNat 0), [(57, (.ofNat 1))]))])
def zc238 : AC := .inl (8, [.inr (.inl (some 44)), .inl (false, ((.ofNat 0), [(58, (.ofNat 1))])), .inl (false, ((.ofNat 0), [(59, (.ofNat 1))])), .inl (false, ((.ofNat 0), [(60, (.ofNat 1))])), .inl (false, ((.ofNat 0), [(61, (.ofNat 1))]))])
def zc239 : AC := .inr (100, .inl [.inl ((.ofNat 0), [(62, (.ofNat 1))])])
def zc240 : AC := .inl (8, [.inr (.inl (some 46)), .inl (false, ((.ofNat 0), [(63, (.ofNat 1))])), .inl (false, ((.ofNat 0), [(64, (.ofNat 1))])), .inl (false, ((.ofNat 0), [(65, (.ofNat 1))])), .inl (false, ((.ofNat 0), [(66, (.ofNat 1))]))])
def zc241 : AC := .inr (100, .inl [.inl ((.ofNat 0), [(67, (.ofNat 1))])])
def zc242 : AC := .inr (100, .inl [.inl ((.ofNat 0), [(72, (.ofNat 1))])])
def zc243 : AC := .inl (8, [.inr (.inl (some 50)), .inl (false, ((.ofNat 0), [(73, (.ofNat 1))])), .inl (false, ((.ofNat 0), [(74, (.ofNat 1))])), .inl (false, ((.ofNat 0), [(75, (.ofNat 1))])), .inl (false, ((.ofNat 0), [(76, (.ofNat 1))]))])
def zc244 : AC := .inl (9, [.inr (.inl (some 52)), .inr (.inl (some 53)), .inr (.inl (some 54)), .inl (false, ((.ofNat 0), [(78, (.ofNat 1))]))])
noncomputable def c31_0 : Ct := (31, 76, (84, [(0, (.negSucc 2147483647), (.ofNat 2147483647)), (1, (.ofNat 1), (.ofNat 4)), (2, (.negSucc 2147483647), (.ofNat 2147483647)), (3, (.negSucc 2147483647), (.ofNat 2147483647)), (4, (.ofNat 1), (.ofNat 1000)), (5, (.ofNat 0), (.ofNat 50)), (6, (.ofNat 0), (.ofNat 10)), (7, (.ofNat 0), (.ofNat 60)), (12, (.ofNat 0), (.ofNat 60)), (17, (.ofNat 0), (.ofNat 8)), (25, (.ofNat 0), (.ofNat 6)), (32, (.ofNat 0), (.ofNat 60)), (33, (.negSucc 2147483647), (.ofNat 2147483647)), (34, (.ofNat 0), (.ofNat 60)), (35, (.ofNat 0), (.ofNat 60)), (36, (.ofNat 0), (.ofNat 8)), (45, (.negSucc 2147483647), (.ofNat 2147483647)), (46, (.negSucc 2147483647), (.ofNat 2147483647)), (47, (.negSucc 2147483647), (.ofNat 2147483647)), (48, (.negSucc 2147483647), (.ofNat 2147483647)), (49, (.negSucc 2147483647), (.ofNat 2147483647)), (50, (.negSucc 2147483647), (.ofNat 2147483647)), (51, (.ofNat 0), (.ofNat 3)), (52, (.negSucc 2147483647), (.ofNat 2147483647)), (53, (.negSucc 2147483647), (.ofNat 2147483647)), (54, (.negSucc 2147483647), (.ofNat 2147483647)), (55, (.negSucc 2147483647), (.ofNat 2147483647)), (56, (.ofNat 0), (.ofNat 1)), (57, (.negSucc 2147483647), (.ofNat 2147483647)), (58, (.negSucc 2147483647), (.ofNat 2147483647)), (59, (.negSucc 2147483647), (.ofNat 2147483647)), (60, (.negSucc 2147483647), (.ofNat 2147483647)), (61, (.negSucc 2147483647), (.ofNat 2147483647)), (63, (.negSucc 2147483647), (.ofNat 2147483647)), (64, (.negSucc 2147483647), (.ofNat 2147483647)), (65, (.negSucc 2147483647), (.ofNat 2147483647)), (66, (.negSucc 2147483647), (.ofNat 2147483647)), (68, (.negSucc 2147483647), (.ofNat 2147483647)), (69, (.negSucc 2147483647), (.ofNat 2147483647)), (70, (.negSucc 2147483647), (.ofNat 2147483647)), (71, (.negSucc 2147483647), (.ofNat 2147483647)), (73, (.negSucc 2147483647), (.ofNat 2147483647)), (74, (.negSucc 2147483647), (.ofNat 2147483647)), (75, (.negSucc 2147483647), (.ofNat 2147483647)), (76, (.negSucc 2147483647), (.ofNat 2147483647)), (78, (.negSucc 2147483647), (.ofNat 2147483647))], [], [.inr (.inl (some 0)), .inl (false, ((.ofNat 0), [(0, (.ofNat 1))]))], [zc21,
    zc47,
    .inr (4, .inr (.inr [some 3, some 8])),
    zc48,
    zc49,
    zc50,
    zc51,
    zc52,
    zc53,
    zc54,
    zc55,
    zc56,
    zc57,
    zc58,
    zc59,
    zc60,
    zc61,
    zc62,
    zc63,
    zc64,
    zc65,
    zc66,
    zc67,
    zc68,
    zc69,
    zc70,
    zc71,
    zc38,
    zc72,
    zc223,
    zc105,
    .inr (1, .inr (.inl 60)),
    zc236,
    zc74,
    zc118,
    zc76,
    zc77,
    zc78,
    zc79,
    zc80,
    zc81,
    zc237,
    zc85,
    zc238,
    zc239,
    zc240,
    zc241,
    zc88,
    zc242,
    zc243,
    zc91,
    zc244,
    zc93,
    zc94,
    zc95,
    zc149,
    zc150,
    zc22,
    .inr (1, .inr (.inl 6)),
    .inr (1, .inr (.inl 4)),
    .inr (6, .inr (.inr [none, none])),
    .inr (7, .inr (.inr [none, none]))], [(0, [4, 5, 6, 7], []), (0, [9, 10, 11, 12], [])]),
  [((89, [(84, (.negSucc 3), (.ofNat 60)), (85, (.ofNat 0), (.ofNat 60)), (86, (.negSucc 2147483647), (.ofNat 2147483647)), (87, (.ofNat 0), (.ofNat 60)), (88, (.ofNat 0), (.ofNat 60))], [], [.inl (false, ((.ofNat 0), [(84, (.ofNat 1))]))], [zc21,
    zc47,
    .inr (4, .inr (.inr [some 3, some 8])),
    zc48,
    zc49,
    zc50,
    zc51,
    zc52,
    zc53,
    zc54,
    zc55,
    zc56,
    zc57,
    zc58,
    zc59,
    zc60,
    zc61,
    zc62,
    zc63,
    zc64,
    zc65,
    zc66,
    zc67,
    zc68,
    zc69,
    zc70,
    zc71,
    zc38,
    .inl (5, [.inl (false, ((.ofNat 0), [(85, (.ofNat 1))])), .inr (.inl (some 29)), .inl (false, ((.ofNat 0), [(86, (.ofNat 1))])), .inl (false, ((.ofNat 0), [(87, (.ofNat 1))])), .inl (false, ((.ofNat 0), [(88, (.ofNat 1))])), .inr (.inl (some 30)), .inr (.inl (some 31))]),
    zc223,
    zc105,
    .inr (1, .inr (.inl 60)),
    zc236,
    zc74,
    zc118,
    zc76,
    zc77,
    zc78,
    zc79,
    zc80,
    zc81,
    zc237,
    zc85,
    zc238,
    zc239,
    zc240,
    zc241,
    zc88,
    zc242,
    zc243,
    zc91,
    zc244,
    zc93,
    zc94,
    zc95,
    zc149,
    zc150,
    zc22,
    .inr (1, .inr (.inl 6)),
    .inr (1, .inr (.inl 4)),
    .inr (6, .inr (.inr [none, none])),
    .inr (7, .inr (.inr [none, none]))], [(0, [4, 5, 6, 7], []), (0, [9, 10, 11, 12], [])]), 0, 0)])
noncomputable def c31_0_e : List Ct := [c12_0, c32_0]
noncomputable def c31_0_pts : List PE := []
set_option maxRecDepth 100000 in
theorem c31_0_k : enCtF c31_0 c31_0_e (c31_0_pts ++ []) (none) noH 3000 = true := by decide +kernel
set_option maxRecDepth 100000 in
theorem c31_0_v : ValidC PPk c31_0 := ct_ok fpk noH_ok (d := 75) (ext := []) (pts := c31_0_pts) (env := c31_0_e) rfl (List.forall_mem_cons.mpr ⟨⟨c12_0_v, Nat.le_of_ble_eq_true rfl⟩, List.forall_mem_cons.mpr ⟨⟨c32_0_v, Nat.le_of_ble_eq_true rfl⟩, fun _ h => (by cases h)⟩⟩) ext_nil (fun q h => (by cases h)) (enF c31_0_k) (fun _ h => (by cases h))

noncomputable def c158_0 : Ct := (158, 2, (34, [(0, (.negSucc 2147483647), (.ofNat 2147483647)), (1, (.ofNat 0), (.ofNat 69)), (2, (.ofNat 0), (.ofNat 69)), (3, (.ofNat 0), (.ofNat 8)), (4, (.negSucc 2147483647), (.ofNat 2147483647)), (5, (.negSucc 2147483647), (.ofNat 2147483647)), (6, (.negSucc 2147483647), (.ofNat 2147483647)), (7, (.negSucc 2147483647), (.ofNat 2147483647)), (8, (.negSucc 2147483647), (.ofNat 2147483647)), (9, (.negSucc 2147483647), (.ofNat 2147483647)), (10, (.negSucc 2147483647), (.ofNat 2147483647)), (11, (.ofNat 1), (.ofNat 4)), (12, (.ofNat 0), (.ofNat 60)), (13, (.ofNat 0), (.ofNat 8)), (14, (.ofNat 0), (.ofNat 6)), (15, (.ofNat 0), (.ofNat 8)), (16, (.ofNat 0), (.ofNat 60)), (17, (.ofNat 0), (.ofNat 60)), (18, (.ofNat 0), (.ofNat 10)), (19, (.negSucc 2147483647), (.ofNat 2147483647)), (20, (.ofNat 0), (.ofNat 1)), (21, (.ofNat 0), (.ofNat 1)), (22, (.ofNat 0), (.ofNat 1)), (23, (.ofNat 0), (.ofNat 1))], [((.ofNat 1), [(20, (.negSucc 0)), (21, (.negSucc 0)), (22, (.negSucc 0)), (23, (.negSucc 0))])], [.inr (.inl (some 0)), .inl (false, ((.ofNat 0), [(0, (.ofNat 1))]))], [zc96,
    zc97,
    zc65,
    zc98,
    zc67,
    zc68,
    zc69,
    .inr (1, .inr (.inl 70)),
    .inr (1, .inr (.inl 8)),
    zc70,
    zc71,
    zc38,
    zc39,
    zc40,
    .inr (1, .inr (.inl 4))], [(2, [1], []), (1, [1], [])]),
  [((36, [(34, (.negSucc 3), (.ofNat 60)), (35, (.ofNat 0), (.ofNat 60))], [], [.inl (false, ((.ofNat 0), [(34, (.ofNat 1))]))], [zc96,
    .inr (0, .inl [.inl ((.ofNat 0), [(11, (.ofNat 1))]), .inl ((.ofNat 0), [(12, (.ofNat 1))]), .inl ((.ofNat 0), [(13, (.ofNat 1))]), .inl ((.ofNat 0), [(14, (.ofNat 1))]), .inl ((.ofNat 0), [(15, (.ofNat 1))]), .inl ((.ofNat 0), [(35, (.ofNat 1))]), .inl ((.ofNat 0), [(17, (.ofNat 1))]), .inl ((.ofNat 0), [(18, (.ofNat 1))]), .inr (5, (.negSucc 2147483647), (.ofNat 2147483647)), .inr (1, (.ofNat 0), (.ofNat 3)), .inl ((.ofNat 0), [(19, (.ofNat 1))]), .inr (2, (.negSucc 2147483647), (.ofNat 2147483647)), .inr (1, (.ofNat 1), (.ofNat 1000)), .inr (1, (.ofNat 0), (.ofNat 50)), .inr (23, (.negSucc 2147483647), (.ofNat 2147483647)), .inl ((.ofNat 0), [(20, (.ofNat 1))]), .inr (39, (.negSucc 2147483647), (.ofNat 2147483647)), .inl ((.ofNat 0), [(21, (.ofNat 1))]), .inr (39, (.negSucc 2147483647), (.ofNat 2147483647)), .inl ((.ofNat 0), [(22, (.ofNat 1))]), .inr (39, (.negSucc 2147483647), (.ofNat 2147483647)), .inl ((.ofNat 0), [(23, (.ofNat 1))]), .inr (517, (.negSucc 2147483647), (.ofNat 2147483647)), .inr (12, (.ofNat 0), (.ofNat 60)), .inr (1, (.ofNat 0), (.ofNat 5)), .inr (1, (.ofNat 0), (.ofNat 39)), .inr (1, (.ofNat 0), (.ofNat 40)), .inr (1, (.ofNat 0), (.ofNat 5)), .inr (1, (.ofNat 0), (.ofNat 39)), .inr (1, (.ofNat 0), (.ofNat 40)), .inr (1, (.ofNat 0), (.ofNat 5)), .inr (1, (.ofNat 0), (.ofNat 39)), .inr (1, (.ofNat 0), (.ofNat 40)), .inr (1, (.ofNat 0), (.ofNat 5)), .inr (1, (.ofNat 0), (.ofNat 39)), .inr (1, (.ofNat 0), (.ofNat 40)), .inr (1, (.ofNat 0), (.ofNat 5)), .inr (1, (.ofNat 0), (.ofNat 39)), .inr (1, (.ofNat 0), (.ofNat 40)), .inr (1, (.ofNat 0), (.ofNat 5)), .inr (1, (.ofNat 0), (.ofNat 39)), .inr (1, (.ofNat 0), (.ofNat 40)), .inr (1, (.ofNat 0), (.ofNat 5)), .inr (1, (.ofNat 0), (.ofNat 39)), .inr (1, (.ofNat 0), (.ofNat 40)), .inr (1, (.ofNat 0), (.ofNat 5)), .inr (1, (.ofNat 0), (.ofNat 39)), .inr (1, (.ofNat 0), (.ofNat 40)), .inr (76, (.negSucc 2147483647), (.ofNat 2147483647)), .inr (2, (.negSucc 2147483647), (.ofNat 2147483647)), .inr (1, (.ofNat 0), (.ofNat 5)), .inr (2, (.negSucc 2147483647), (.ofNat 2147483647)), .inr (2, (.negSucc 2147483647), (.ofNat 2147483647)), .inr (1, (.ofNat 0), (.ofNat 5)), .inr (2, (.negSucc 2147483647), (.ofNat 2147483647)), .inr (2, (.negSucc 2147483647), (.ofNat 2147483647)), .inr (1, (.ofNat 0), (.ofNat 5)), .inr (2, (.negSucc 2147483647), (.ofNat 2147483647)), .inr (2, (.negSucc 2147483647), (.ofNat 2147483647)), .inr (1, (.ofNat 0), (.ofNat 5)), .inr (2, (.negSucc 2147483647), (.ofNat 2147483647)), .inr (2, (.negSucc 2147483647), (.ofNat 2147483647)), .inr (1, (.ofNat 0), (.ofNat 5)), .inr (2, (.negSucc 2147483647), (.ofNat 2147483647)), .inr (2, (.negSucc 2147483647), (.ofNat 2147483647)), .inr (1, (.ofNat 0), (.ofNat 5)), .inr (2, (.negSucc 2147483647), (.ofNat 2147483647)), .inr (2, (.negSucc 2147483647), (.ofNat 2147483647)), .inr (1, (.ofNat 0), (.ofNat 5)), .inr (2, (.negSucc 2147483647), (.ofNat 2147483647)), .inr (2, (.negSucc 2147483647), (.ofNat 2147483647)), .inr (1, (.ofNat 0), (.ofNat 5)), .inr (2, (.negSucc 2147483647), (.ofNat 2147483647)), .inr (60, (.ofNat 0), (.ofNat 127)), .inr (18, (.negSucc 2147483647), (.ofNat 2147483647))]),
    zc65,
    zc98,
    zc67,
    zc68,
    zc69,
    .inr (1, .inr (.inl 70)),
    .inr (1, .inr (.inl 8)),
    zc70,
    zc71,
    zc38,
    zc39,
    zc40,
    .inr (1, .inr (.inl 4))], [(2, [1], []), (1, [1], [])]), 0, 0)])
noncomputable def c158_0_e : List Ct := [c145_0]
noncomputable def c158_0_pts : List PE := []
set_option maxRecDepth 100000 in
theorem c158_0_k : enCtF c158_0 c158_0_e (c158_0_pts ++ []) (none) noH 3000 = true := by decide +kernel
set_option maxRecDepth 100000 in
theorem c158_0_v : ValidC PPk c158_0 := ct_ok fpk noH_ok (d := 1) (ext := []) (pts := c158_0_pts) (env := c158_0_e) rfl (List.forall_mem_cons.mpr ⟨⟨c145_0_v, Nat.le_of_ble_eq_true rfl⟩, fun _ h => (by cases h)⟩) ext_nil (fun q h => (by cases h)) (enF c158_0_k) (fun _ h => (by cases h))

noncomputable def c47_0 : Ct := (47, 75, (4, [(0, (.ofNat 0), (.ofNat 60)), (1, (.negSucc 2147483647), (.ofNat 2147483647)), (2, (.ofNat 0), (.ofNat 60)), (3, (.ofNat 0), (.ofNat 60))], [], [.inr (.inl (some 0))], [zc222,
    zc223,
    zc105,
    .inr (1, .inr (.inl 60))], []),
  [((7, [(4, (.negSucc 2147483647), (.ofNat 2147483647)), (5, (.ofNat 0), (.ofNat 60)), (6, (.ofNat 0), (.ofNat 60))], [], [], [.inl (5, [.inl (false, ((.ofNat 0), [])), .inr (.inl (some 1)), .inl (false, ((.ofNat 0), [(4, (.ofNat 1))])), .inl (false, ((.ofNat 0), [(5, (.ofNat 1))])), .inl (false, ((.ofNat 0), [(6, (.ofNat 1))])), .inr (.inl (some 2)), .inr (.inl (some 3))]),
    zc223,
    zc105,
    .inr (1, .inr (.inl 60))], []), 0, 0)])
noncomputable def c47_0_e : List Ct := [c33_0]
noncomputable def c47_0_pts : List PE := []
set_option maxRecDepth 100000 in
theorem c47_0_k : enCtF c47_0 c47_0_e (c47_0_pts ++ []) (none) noH 3000 = true := by decide +kernel
set_option maxRecDepth 100000 in
theorem c47_0_v : ValidC PPk c47_0 := ct_ok fpk noH_ok (d := 74) (ext := []) (pts := c47_0_pts) (env := c47_0_e) rfl (List.forall_mem_cons.mpr ⟨⟨c33_0_v, Nat.le_of_ble_eq_true rfl⟩, fun _ h => (by cases h)⟩) ext_nil (fun q h => (by cases h)) (enF c47_0_k) (fun _ h => (by cases h))

def zc245 : AC := .inl (6, [.inl (false, ((.ofNat 0), [(35, (.ofNat 1))])), .inr (.inl (some 33)), .inr (.inl (some 34)), .inr (.inl (some 35)), .inr (.inl (some 36)), .inr (.inl (some 37))])
def zc246 : AC := .inl (7, [.inr (.inl (some 42)), .inl (false, ((.ofNat 0), [(44, (.ofNat 1))])), .inr (.inl (some 51)), .inr (.inl (some 55)), .inr (.inl (some 56)), .inl (false, ((.ofNat 0), [(45, (.ofNat 1))])), .inl (false, ((.ofNat 0), [(46, (.ofNat 1))])), .inl (false, ((.ofNat 0), [(47, (.ofNat 1))])), .inl (false, ((.ofNat 0), [(48, (.ofNat 1))])), .inl (false, ((.ofNat 0), [(49, (.ofNat 1))])), .inl (false, ((.ofNat 0), [(50, (.ofNat 1))])), .inl (false, ((.ofNat 0), [(51, (.ofNat 1))])), .inl (false, ((.ofNat 0), [(52, (.ofNat 1))])), .inl (false, ((.ofNat 0), [(53, (.ofNat 1))])), .inl (false, ((.ofNat 0), [(54, (.ofNat 1))])), .inl (false, ((.ofNat 0), [(55, (.ofNat 1))])), .inl (false, ((.ofNat 0), [(56, (.ofNat 1))]))])
def zc247 : AC := .inl (8, [.inr (.inl (some 44)), .inl (false, ((.ofNat 0), [(57, (.ofNat 1))])), .inl (false, ((.ofNat 0), [(58, (.ofNat 1))])), .inl (false, ((.ofNat 0), [(59, (.ofNat 1))])), .inl (false, ((.ofNat 0), [(60, (.ofNat 1))]))])
def zc248 : AC := .inr (100, .inl [.inl ((.ofNat 0), [(61, (.ofNat 1))])])
def zc249 : AC := .inl (8, [.inr (.inl (some 46)), .inl (false, ((.ofNat 0), [(62, (.ofNat 1))])), .inl (false, ((.ofNat 0), [(63, (.ofNat 1))])), .inl (false, ((.ofNat 0), [(64, (.ofNat 1))])), .inl (false, ((.ofNat 0), [(65, (.ofNat 1))]))])
def zc250 : AC := .inl (8, [.inr (.inl (some 48)), .inl (false, ((.ofNat 0), [(67, (.ofNat 1))])), .inl (false, ((.ofNat 0), [(68, (.ofNat 1))])), .inl (false, ((.ofNat 0), [(69, (.ofNat 1))])), .inl (false, ((.ofNat 0), [(70, (.ofNat 1))]))])
def zc251 : AC := .inl (9, [.inr (.inl (some 52)), .inr (.inl (some 53)), .inr (.inl (some 54)), .inl (false, ((.ofNat 0), [(77, (.ofNat 1))]))])
noncomputable def c46_0 : Ct := (46, 76, (83, [(0, (.ofNat 1), (.ofNat 4)), (1, (.negSucc 2147483647), (.ofNat 2147483647)), (2, (.negSucc 2147483647), (.ofNat 2147483647)), (3, (.ofNat 1), (.ofNat 1000)), (4, (.ofNat 0), (.ofNat 50)), (5, (.ofNat 0), (.ofNat 10)), (6, (.ofNat 0), (.ofNat 60)), (11, (.ofNat 0), (.ofNat 60)), (16, (.ofNat 0), (.ofNat 8)), (24, (.ofNat 0), (.ofNat 6)), (31, (.ofNat 0), (.ofNat 60)), (32, (.negSucc 2147483647), (.ofNat 2147483647)), (33, (.ofNat 0), (.ofNat 60)), (34, (.ofNat 0), (.ofNat 60)), (35, (.ofNat 0), (.ofNat 8)), (44, (.negSucc 2147483647), (.ofNat 2147483647)), (45, (.negSucc 2147483647), (.ofNat 2147483647)), (46, (.negSucc 2147483647), (.ofNat 2147483647)), (47, (.negSucc 2147483647), (.ofNat 2147483647)), (48, (.negSucc 2147483647), (.ofNat 2147483647)), (49, (.negSucc 2147483647), (.ofNat 2147483647)), (50, (.ofNat 0), (.ofNat 3)), (51, (.negSucc 2147483647), (.ofNat 2147483647)), (52, (.negSucc 2147483647), (.ofNat 2147483647)), (53, (.negSucc 2147483647), (.ofNat 2147483647)), (54, (.negSucc 2147483647), (.ofNat 2147483647)), (55, (.ofNat 0), (.ofNat 1)), (56, (.negSucc 2147483647), (.ofNat 2147483647)), (57, (.negSucc 2147483647), (.ofNat 2147483647)), (58, (.negSucc 2147483647), (.ofNat 2147483647)), (59, (.negSucc 2147483647), (.ofNat 2147483647)), (60, (.negSucc 2147483647), (.ofNat 2147483647)), (62, (.negSucc 2147483647), (.ofNat 2147483647)), (63, (.negSucc 2147483647), (.ofNat 2147483647)), (64, (.negSucc 2147483647), (.ofNat 2147483647)), (65, (.negSucc 2147483647), (.ofNat 2147483647)), (67, (.negSucc 2147483647), (.ofNat 2147483647)), (68, (.negSucc 2147483647), (.ofNat 2147483647)), (69, (.negSucc 2147483647), (.ofNat 2147483647)), (70, (.negSucc 2147483647), (.ofNat 2147483647)), (72, (.negSucc 2147483647), (.ofNat 2147483647)), (73, (.negSucc 2147483647), (.ofNat 2147483647)), (74, (.negSucc 2147483647), (.ofNat 2147483647)), (75, (.negSucc 2147483647), (.ofNat 2147483647)), (77, (.negSucc 2147483647), (.ofNat 2147483647))], [], [.inr (.inl (some 0))], [zc21,
    zc173,
    .inr (4, .inr (.inr [some 3, some 8])),
    zc174,
    zc175,
    zc49,
    zc50,
    zc51,
    zc109,
    zc141,
    zc54,
    zc55,
    zc56,
    zc176,
    zc111,
    zc59,
    zc60,
    zc61,
    zc62,
    zc63,
    zc64,
    zc161,
    zc113,
    zc67,
    zc68,
    zc69,
    zc70,
    zc71,
    zc162,
    zc223,
    zc105,
    .inr (1, .inr (.inl 60)),
    zc245,
    zc117,
    zc74,
    zc118,
    zc76,
    zc77,
    zc78,
    zc79,
    zc80,
    zc246,
    zc85,
    zc247,
    zc248,
    zc249,
    zc214,
    zc250,
    zc216,
    zc89,
    zc129,
    zc251,
    zc92,
    zc93,
    zc94,
    zc95,
    zc149,
    zc22,
    .inr (1, .inr (.inl 6)),
    .inr (1, .inr (.inl 4)),
    .inr (6, .inr (.inr [none, none])),
    .inr (7, .inr (.inr [none, none]))], [(0, [4, 5, 6, 7], []), (0, [9, 10, 11, 12], [])]),
  [((86, [(83, (.negSucc 2147483647), (.ofNat 2147483647)), (84, (.ofNat 0), (.ofNat 60)), (85, (.ofNat 0), (.ofNat 60))], [], [.inl (false, ((.ofNat 0), [(31, (.ofNat 1))]))], [zc21,
    zc173,
    .inr (4, .inr (.inr [some 3, some 8])),
    zc174,
    zc175,
    zc49,
    zc50,
    zc51,
    zc109,
    zc141,
    zc54,
    zc55,
    zc56,
    zc176,
    zc111,
    zc59,
    zc60,
    zc61,
    zc62,
    zc63,
    zc64,
    zc161,
    zc113,
    zc67,
    zc68,
    zc69,
    zc70,
    zc71,
    .inl (5, [.inl (false, ((.ofNat 0), [])), .inr (.inl (some 29)), .inl (false, ((.ofNat 0), [(83, (.ofNat 1))])), .inl (false, ((.ofNat 0), [(84, (.ofNat 1))])), .inl (false, ((.ofNat 0), [(85, (.ofNat 1))])), .inr (.inl (some 30)), .inr (.inl (some 31))]),
    zc223,
    zc105,
    .inr (1, .inr (.inl 60)),
    zc245,
    zc117,
    zc74,
    zc118,
    zc76,
    zc77,
    zc78,
    zc79,
    zc80,
    zc246,
    zc85,
    zc247,
    zc248,
    zc249,
    zc214,
    zc250,
    zc216,
    zc89,
    zc129,
    zc251,
    zc92,
    zc93,
    zc94,
    zc95,
    zc149,
    zc22,
    .inr (1, .inr (.inl 6)),
    .inr (1, .inr (.inl 4)),
    .inr (6, .inr (.inr [none, none])),
    .inr (7, .inr (.inr [none, none]))], [(0, [4, 5, 6, 7], []), (0, [9, 10, 11, 12], [])]), 0, 0)])
noncomputable def c46_0_e : List Ct := [c47_0]
noncomputable def c46_0_pts : List PE := []
set_option maxRecDepth 100000 in
theorem c46_0_k : enCtF c46_0 c46_0_e (c46_0_pts ++ []) (none) noH 3000 = true := by decide +kernel
set_option maxRecDepth 100000 in
theorem c46_0_v : ValidC PPk c46_0 := ct_ok fpk noH_ok (d := 75) (ext := []) (pts := c46_0_pts) (env := c46_0_e) rfl (List.forall_mem_cons.mpr ⟨⟨c47_0_v, Nat.le_of_ble_eq_true rfl⟩, fun _ h => (by cases h)⟩) ext_nil (fun q h => (by cases h)) (enF c46_0_k) (fun _ h => (by cases h))

noncomputable def c159_0 : Ct := (159, 1, (33, [(0, (.ofNat 0), (.ofNat 69)), (1, (.ofNat 0), (.ofNat 69)), (2, (.ofNat 0), (.ofNat 8)), (3, (.negSucc 2147483647), (.ofNat 2147483647)), (4, (.negSucc 2147483647), (.ofNat 2147483647)), (5, (.negSucc 2147483647), (.ofNat 2147483647)), (6, (.negSucc 2147483647), (.ofNat 2147483647)), (7, (.negSucc 2147483647), (.ofNat 2147483647)), (8, (.negSucc 2147483647), (.ofNat 2147483647)), (9, (.negSucc 2147483647), (.ofNat 2147483647)), (10, (.ofNat 1), (.ofNat 4)), (11, (.ofNat 0), (.ofNat 60)), (12, (.ofNat 0), (.ofNat 8)), (13, (.ofNat 0), (.ofNat 6)), (14, (.ofNat 0), (.ofNat 8)), (15, (.ofNat 0), (.ofNat 60)), (16, (.ofNat 0), (.ofNat 60)), (17, (.ofNat 0), (.ofNat 10)), (18, (.negSucc 2147483647), (.ofNat 2147483647)), (19, (.ofNat 0), (.ofNat 1)), (20, (.ofNat 0), (.ofNat 1)), (21, (.ofNat 0), (.ofNat 1)), (22, (.ofNat 0), (.ofNat 1))], [((.ofNat 1), [(19, (.negSucc 0)), (20, (.negSucc 0)), (21, (.negSucc 0)), (22, (.negSucc 0))])], [.inr (.inl (some 0))], [zc177,
    zc178,
    zc64,
    zc179,
    zc113,
    zc67,
    zc68,
    .inr (1, .inr (.inl 70)),
    .inr (1, .inr (.inl 8)),
    zc69,
    zc70,
    zc71,
    zc38,
    zc39,
    .inr (1, .inr (.inl 4))], [(2, [1], []), (1, [1], [])]),
  [((33, [], [], [.inl (false, ((.ofNat 0), [(15, (.ofNat 1))]))], [zc177,
    .inr (0, .inl [.inl ((.ofNat 0), [(10, (.ofNat 1))]), .inl ((.ofNat 0), [(11, (.ofNat 1))]), .inl ((.ofNat 0), [(12, (.ofNat 1))]), .inl ((.ofNat 0), [(13, (.ofNat 1))]), .inl ((.ofNat 0), [(14, (.ofNat 1))]), .inl ((.ofNat 0), []), .inl ((.ofNat 0), [(16, (.ofNat 1))]), .inl ((.ofNat 0), [(17, (.ofNat 1))]), .inr (5, (.negSucc 2147483647), (.ofNat 2147483647)), .inr (1, (.ofNat 0), (.ofNat 3)), .inl ((.ofNat 0), [(18, (.ofNat 1))]), .inr (2, (.negSucc 2147483647), (.ofNat 2147483647)), .inr (1, (.ofNat 1), (.ofNat 1000)), .inr (1, (.ofNat 0), (.ofNat 50)), .inr (23, (.negSucc 2147483647), (.ofNat 2147483647)), .inl ((.ofNat 0), [(19, (.ofNat 1))]), .inr (39, (.negSucc 2147483647), (.ofNat 2147483647)), .inl ((.ofNat 0), [(20, (.ofNat 1))]), .inr (39, (.negSucc 2147483647), (.ofNat 2147483647)), .inl ((.ofNat 0), [(21, (.ofNat 1))]), .inr (39, (.negSucc 2147483647), (.ofNat 2147483647)), .inl ((.ofNat 0), [(22, (.ofNat 1))]), .inr (517, (.negSucc 2147483647), (.ofNat 2147483647)), .inr (12, (.ofNat 0), (.ofNat 60)), .inr (1, (.ofNat 0), (.ofNat 5)), .inr (1, (.ofNat 0), (.ofNat 39)), .inr (1, (.ofNat 0), (.ofNat 40)), .inr (1, (.ofNat 0), (.ofNat 5)), .inr (1, (.ofNat 0), (.ofNat 39)), .inr (1, (.ofNat 0), (.ofNat 40)), .inr (1, (.ofNat 0), (.ofNat 5)), .inr (1, (.ofNat 0), (.ofNat 39)), .inr (1, (.ofNat 0), (.ofNat 40)), .inr (1, (.ofNat 0), (.ofNat 5)), .inr (1, (.ofNat 0), (.ofNat 39)), .inr (1, (.ofNat 0), (.ofNat 40)), .inr (1, (.ofNat 0), (.ofNat 5)), .inr (1, (.ofNat 0), (.ofNat 39)), .inr (1, (.ofNat 0), (.ofNat 40)), .inr (1, (.ofNat 0), (.ofNat 5)), .inr (1, (.ofNat 0), (.ofNat 39)), .inr (1, (.ofNat 0), (.ofNat 40)), .inr (1, (.ofNat 0), (.ofNat 5)), .inr (1, (.ofNat 0), (.ofNat 39)), .inr (1, (.ofNat 0), (.ofNat 40)), .inr (1, (.ofNat 0), (.ofNat 5)), .inr (1, (.ofNat 0), (.ofNat 39)), .inr (1, (.ofNat 0), (.ofNat 40)), .inr (76, (.negSucc 2147483647), (.ofNat 2147483647)), .inr (2, (.negSucc 2147483647), (.ofNat 2147483647)), .inr (1, (.ofNat 0), (.ofNat 5)), .inr (2, (.negSucc 2147483647), (.ofNat 2147483647)), .inr (2, (.negSucc 2147483647), (.ofNat 2147483647)), .inr (1, (.ofNat 0), (.ofNat 5)), .inr (2, (.negSucc 2147483647), (.ofNat 2147483647)), .inr (2, (.negSucc 2147483647), (.ofNat 2147483647)), .inr (1, (.ofNat 0), (.ofNat 5)), .inr (2, (.negSucc 2147483647), (.ofNat 2147483647)), .inr (2, (.negSucc 2147483647), (.ofNat 2147483647)), .inr (1, (.ofNat 0), (.ofNat 5)), .inr (2, (.negSucc 2147483647), (.ofNat 2147483647)), .inr (2, (.negSucc 2147483647), (.ofNat 2147483647)), .inr (1, (.ofNat 0), (.ofNat 5)), .inr (2, (.negSucc 2147483647), (.ofNat 2147483647)), .inr (2, (.negSucc 2147483647), (.ofNat 2147483647)), .inr (1, (.ofNat 0), (.ofNat 5)), .inr (2, (.negSucc 2147483647), (.ofNat 2147483647)), .inr (2, (.negSucc 2147483647), (.ofNat 2147483647)), .inr (1, (.ofNat 0), (.ofNat 5)), .inr (2, (.negSucc 2147483647), (.ofNat 2147483647)), .inr (2, (.negSucc 2147483647), (.ofNat 2147483647)), .inr (1, (.ofNat 0), (.ofNat 5)), .inr (2, (.negSucc 2147483647), (.ofNat 2147483647)), .inr (60, (.ofNat 0), (.ofNat 127)), .inr (18, (.negSucc 2147483647), (.ofNat 2147483647))]),
    zc64,
    zc179,
    zc113,
    zc67,
    zc68,
    .inr (1, .inr (.inl 70)),
    .inr (1, .inr (.inl 8)),
    zc69,
    zc70,
    zc71,
    zc38,
    zc39,
    .inr (1, .inr (.inl 4))], [(2, [1], []), (1, [1], [])]), 0, 0)])
noncomputable def c159_0_e : List Ct := []
noncomputable def c159_0_pts : List PE := []
set_option maxRecDepth 100000 in
theorem c159_0_k : enCtF c159_0 c159_0_e (c159_0_pts ++ []) (none) noH 3000 = true := by decide +kernel
set_option maxRecDepth 100000 in
theorem c159_0_v : ValidC PPk c159_0 := ct_ok fpk noH_ok (d := 0) (ext := []) (pts := c159_0_pts) (env := c159_0_e) rfl (fun _ h => (by cases h)) ext_nil (fun q h => (by cases h)) (enF c159_0_k) (fun _ h => (by cases h))

noncomputable def c48_0 : Ct := (48, 1, (85, [(0, (.ofNat 1), (.ofNat 4)), (1, (.negSucc 2147483647), (.ofNat 2147483647)), (2, (.negSucc 2147483647), (.ofNat 2147483647)), (3, (.ofNat 1), (.ofNat 1000)), (4, (.ofNat 0), (.ofNat 50)), (5, (.ofNat 0), (.ofNat 10)), (6, (.ofNat 0), (.ofNat 60)), (11, (.ofNat 0), (.ofNat 60)), (16, (.ofNat 0), (.ofNat 8)), (24, (.ofNat 0), (.ofNat 6)), (31, (.ofNat 0), (.ofNat 60)), (32, (.negSucc 2147483647), (.ofNat 2147483647)), (33, (.ofNat 0), (.ofNat 60)), (34, (.ofNat 0), (.ofNat 60)), (37, (.ofNat 0), (.ofNat 8)), (46, (.negSucc 2147483647), (.ofNat 2147483647)), (47, (.negSucc 2147483647), (.ofNat 2147483647)), (48, (.negSucc 2147483647), (.ofNat 2147483647)), (49, (.negSucc 2147483647), (.ofNat 2147483647)), (50, (.negSucc 2147483647), (.ofNat 2147483647)), (51, (.negSucc 2147483647), (.ofNat 2147483647)), (52, (.ofNat 0), (.ofNat 3)), (53, (.negSucc 2147483647), (.ofNat 2147483647)), (54, (.negSucc 2147483647), (.ofNat 2147483647)), (55, (.negSucc 2147483647), (.ofNat 2147483647)), (56, (.negSucc 2147483647), (.ofNat 2147483647)), (57, (.ofNat 0), (.ofNat 1)), (58, (.negSucc 2147483647), (.ofNat 2147483647)), (59, (.negSucc 2147483647), (.ofNat 2147483647)), (60, (.negSucc 2147483647), (.ofNat 2147483647)), (61, (.negSucc 2147483647), (.ofNat 2147483647)), (62, (.negSucc 2147483647), (.ofNat 2147483647)), (64, (.negSucc 2147483647), (.ofNat 2147483647)), (65, (.negSucc 2147483647), (.ofNat 2147483647)), (66, (.negSucc 2147483647), (.ofNat 2147483647)), (67, (.negSucc 2147483647), (.ofNat 2147483647)), (69, (.negSucc 2147483647), (.ofNat 2147483647)), (70, (.negSucc 2147483647), (.ofNat 2147483647)), (71, (.negSucc 2147483647), (.ofNat 2147483647)), (72, (.negSucc 2147483647), (.ofNat 2147483647)), (74, (.negSucc 2147483647), (.ofNat 2147483647)), (75, (.negSucc 2147483647), (.ofNat 2147483647)), (76, (.negSucc 2147483647), (.ofNat 2147483647)), (77, (.negSucc 2147483647), (.ofNat 2147483647)), (79, (.negSucc 2147483647), (.ofNat 2147483647))], [], [.inr (.inl (some 0))], [zc21,
    zc173,
    .inr (4, .inr (.inr [some 3, some 8])),
    zc174,
    zc175,
    zc49,
    zc50,
    zc51,
    zc109,
    zc141,
    zc54,
    zc55,
    zc56,
    zc176,
    zc111,
    zc59,
    zc60,
    zc61,
    zc62,
    zc63,
    zc64,
    zc161,
    zc113,
    zc67,
    zc68,
    zc69,
    zc70,
    zc71,
    zc162,
    zc163,
    zc117,
    .inr (1, .inr (.inl 60)),
    zc164,
    zc118,
    zc76,
    zc77,
    zc78,
    zc79,
    zc80,
    zc81,
    zc82,
    zc165,
    zc85,
    zc166,
    zc167,
    zc87,
    zc168,
    zc169,
    zc170,
    zc171,
    zc92,
    zc172,
    zc94,
    zc95,
    zc149,
    zc150,
    zc151,
    zc22,
    .inr (1, .inr (.inl 6)),
    .inr (1, .inr (.inl 4)),
    .inr (6, .inr (.inr [none, none])),
    .inr (7, .inr (.inr [none, none]))], [(0, [4, 5, 6, 7], []), (0, [9, 10, 11, 12], [])]),
  [((85, [], [], [.inl (false, ((.ofNat 0), [(32, (.ofNat 1))]))], [zc21,
    zc173,
    .inr (4, .inr (.inr [some 3, some 8])),
    zc174,
    zc175,
    zc49,
    zc50,
    zc51,
    zc109,
    zc141,
    zc54,
    zc55,
    zc56,
    zc176,
    zc111,
    zc59,
    zc60,
    zc61,
    zc62,
    zc63,
    zc64,
    zc161,
    zc113,
    zc67,
    zc68,
    zc69,
    zc70,
    zc71,
    zc162,
    zc163,
    zc117,
    .inr (1, .inr (.inl 60)),
    zc164,
    zc118,
    zc76,
    zc77,
    zc78,
    zc79,
    zc80,
    zc81,
    zc82,
    zc165,
    zc85,
    zc166,
    zc167,
    zc87,
    zc168,
    zc169,
    zc170,
    zc171,
    zc92,
    zc172,
    zc94,
    zc95,
    zc149,
    zc150,
    zc151,
    zc22,
    .inr (1, .inr (.inl 6)),
    .inr (1, .inr (.inl 4)),
    .inr (6, .inr (.inr [none, none])),
    .inr (7, .inr (.inr [none, none]))], [(0, [4, 5, 6, 7], []), (0, [9, 10, 11, 12], [])]), 0, 0)])
noncomputable def c48_0_e : List Ct := []
noncomputable def c48_0_pts : List PE := []
set_option maxRecDepth 100000 in
theorem c48_0_k : enCtF c48_0 c48_0_e (c48_0_pts ++ []) (none) noH 3000 = true := by decide +kernel
set_option maxRecDepth 100000 in
theorem c48_0_v : ValidC PPk c48_0 := ct_ok fpk noH_ok (d := 0) (ext := []) (pts := c48_0_pts) (env := c48_0_e) rfl (fun _ h => (by cases h)) ext_nil (fun q h => (by cases h)) (enF c48_0_k) (fun _ h => (by cases h))

noncomputable def c163_0 : Ct := (163, 1, (1, [(0, (.negSucc 2147483647), (.ofNat 2147483647))], [], [.inl (false, ((.ofNat 0), [(0, (.ofNat 1))]))], [], []),
  [((1, [], [], [.inl (false, ((.ofNat 0), []))], [], []), 0, 0),
   ((1, [(0, (.ofNat 2), (.ofNat 3))], [], [.inl (false, ((.ofNat 6), []))], [], []), 0, 0),
   ((1, [(0, (.ofNat 4), (.ofNat 5))], [], [.inl (false, ((.ofNat 5), []))], [], []), 0, 0),
   ((1, [(0, (.ofNat 6), (.ofNat 7))], [], [.inl (false, ((.ofNat 4), []))], [], []), 0, 0),
   ((1, [(0, (.ofNat 8), (.ofNat 10))], [], [.inl (false, ((.ofNat 3), []))], [], []), 0, 0),
   ((1, [(0, (.ofNat 11), (.ofNat 11))], [], [.inl (false, ((.ofNat 2), []))], [], []), 0, 0),
   ((1, [(0, (.ofNat 12), (.ofNat 12))], [], [.inl (false, ((.ofNat 1), []))], [], []), 0, 0)])
noncomputable def c163_0_e : List Ct := []
noncomputable def c163_0_pts : List PE := []
set_option maxRecDepth 100000 in
theorem c163_0_k : enCtF c163_0 c163_0_e (c163_0_pts ++ []) (none) noH 3000 = true := by decide +kernel
set_option maxRecDepth 100000 in
theorem c163_0_v : ValidC PPk c163_0 := ct_ok fpk noH_ok (d := 0) (ext := []) (pts := c163_0_pts) (env := c163_0_e) rfl (fun _ h => (by cases h)) ext_nil (fun q h => (by cases h)) (enF c163_0_k) (fun _ h => (by cases h))

def zc252 : AC := .inr (103, .inl [.inl ((.ofNat 0), [(14, (.ofNat 1))])])
def zc253 : AC := .inr (0, .inl [.inr (70, (.negSucc 2147483647), (.ofNat 2147483647))])
def zc254 : AC := .inl (12, [.inr (.inl (some 1)), .inr (.inl (some 2)), .inr (.inl (some 3)), .inl (false, ((.ofNat 1), [(2, (.ofNat 1))])), .inr (.inl (some 4)), .inr (.inl (some 5)), .inl (false, ((.ofNat 0), [(3, (.ofNat 1))])), .inr (.inl (some 6)), .inr (.inl (some 7)), .inl (false, ((.ofNat 0), [(4, (.ofNat 1))])), .inr (.inl (some 8)), .inl (false, ((.ofNat 0), [(5, (.ofNat 1))])), .inr (.inl (some 9)), .inr (.inl (some 10)), .inr (.inl (some 11)), .inr (.inl (some 12)), .inl (false, ((.ofNat 0), [(6, (.ofNat 1))])), .inl (false, ((.ofNat 0), [(7, (.ofNat 1))])), .inl (false, ((.ofNat 0), [(8, (.ofNat 1))])), .inr (.inl (some 13)), .inl (false, ((.ofNat 0), [(9, (.ofNat 1))])), .inl (false, ((.ofNat 0), [(10, (.ofNat 1))])), .inl (false, ((.ofNat 0), [(11, (.ofNat 1))])), .inr (.inl (some 14))])
noncomputable def c164_0 : Ct := (164, 1, (21, [(0, (.negSucc 2147483647), (.ofNat 2147483647)), (1, (.negSucc 2147483647), (.ofNat 2147483647)), (2, (.ofNat 0), (.ofNat 69)), (3, (.ofNat 0), (.ofNat 69)), (4, (.ofNat 0), (.ofNat 8)), (5, (.negSucc 2147483647), (.ofNat 2147483647)), (6, (.negSucc 2147483647), (.ofNat 2147483647)), (7, (.negSucc 2147483647), (.ofNat 2147483647)), (8, (.negSucc 2147483647), (.ofNat 2147483647)), (9, (.negSucc 2147483647), (.ofNat 2147483647)), (10, (.negSucc 2147483647), (.ofNat 2147483647)), (11, (.negSucc 2147483647), (.ofNat 2147483647))], [], [.inr (.inl (some 0)), .inl (false, ((.ofNat 0), [(0, (.ofNat 1))])), .inl (false, ((.ofNat 0), [(1, (.ofNat 1))]))], [zc200,
    zc141,
    zc54,
    zc252,
    zc253,
    zc253,
    zc56,
    .inr (1, .inr (.inl 70)),
    .inr (1, .inr (.inl 8)),
    zc57,
    zc111,
    zc59,
    zc60,
    zc61,
    .inr (1, .inr (.inl 4))], [(2, [1], []), (1, [1], [])]),
  [((21, [], [], [], [zc254,
    zc141,
    zc54,
    zc252,
    zc253,
    zc253,
    zc56,
    .inr (1, .inr (.inl 70)),
    .inr (1, .inr (.inl 8)),
    zc57,
    zc111,
    zc59,
    zc60,
    zc61,
    .inr (1, .inr (.inl 4))], [(2, [1], []), (1, [1], [])]), 0, 0)])
noncomputable def c164_0_e : List Ct := []
noncomputable def c164_0_pts : List PE := []
set_option maxRecDepth 100000 in
theorem c164_0_k : enCtF c164_0 c164_0_e (c164_0_pts ++ []) (none) ((hOr (hSplit 0 103 ) (hOr (atPc 1 (fConst 4 4 103)) (atPc 30 (fCode 4 103)))), noM, 0, 1073741827, 21) 3000 = true := by decide +kernel
set_option maxRecDepth 100000 in
theorem c164_0_v : ValidC PPk c164_0 := ct_ok fpk ⟨(hOr_ok (hSplit_ok 0 103 ) (hOr_ok (atPc_ok (fConst_ok 4 4 103)) (atPc_ok (fCode_ok 4 103)))), noM_ok⟩ (d := 0) (ext := []) (pts := c164_0_pts) (env := c164_0_e) rfl (fun _ h => (by cases h)) ext_nil (fun q h => (by cases h)) (enF c164_0_k) (fun _ h => (by cases h))
