/-! ===== contracts, written by wip/vse3/emitlaw.py ===== -/
def zc0 : AC := .inr (0, .inl [.inr (6, (.ofNat 0), (.ofNat 0))])
def zc1 : AC := .inr (0, .inl [.inr (8, (.ofNat 0), (.ofNat 0))])
noncomputable def c2_0 : Ct := (2, 1, (0, [], [], [.inr (.inl (some 0))], [.inl (3, [.inr (.inl none), .inr (.inl none), .inl (false, ((.ofNat 0), [])), .inr (.inl none), .inr (.inl none), .inr (.inl none)])], []),
  [((0, [], [], [], [.inl (3, [.inr (.inl (some 1)), .inr (.inl (some 2)), .inl (false, ((.ofNat 0), [])), .inr (.inl (some 3)), .inr (.inl (some 4)), .inr (.inl (some 5))]),
    zc0,
    zc0,
    zc1,
    zc1,
    zc1], []), 5, 36)])
noncomputable def c2_0_e : List Ct := []
noncomputable def c2_0_pts : List PE := []
set_option maxRecDepth 100000 in
theorem c2_0_k : enCtF c2_0 c2_0_e (c2_0_pts ++ []) (none) noH 4000 = true := by decide +kernel
set_option maxRecDepth 100000 in
theorem c2_0_v : ValidC PPk c2_0 := ct_ok fpk noH_ok (d := 0) (ext := []) (pts := c2_0_pts) (env := c2_0_e) rfl (fun _ h => (by cases h)) ext_nil (fun q h => (by cases h)) (enF c2_0_k) (fun _ h => (by cases h))

noncomputable def c3_0 : Ct := (3, 1, (0, [], [], [.inr (.inl (some 0))], [.inl (4, [.inl (false, ((.ofNat 0), [])), .inr (.inl none), .inr (.inl none), .inr (.inl none), .inr (.inl none)])], []),
  [((0, [], [], [], [.inl (4, [.inl (false, ((.ofNat 0), [])), .inr (.inl (some 1)), .inr (.inl (some 2)), .inr (.inl (some 3)), .inr (.inl (some 4))]),
    zc0,
    zc0,
    zc0,
    zc0], []), 4, 24)])
noncomputable def c3_0_e : List Ct := []
noncomputable def c3_0_pts : List PE := []
set_option maxRecDepth 100000 in
theorem c3_0_k : enCtF c3_0 c3_0_e (c3_0_pts ++ []) (none) noH 4000 = true := by decide +kernel
set_option maxRecDepth 100000 in
theorem c3_0_v : ValidC PPk c3_0 := ct_ok fpk noH_ok (d := 0) (ext := []) (pts := c3_0_pts) (env := c3_0_e) rfl (fun _ h => (by cases h)) ext_nil (fun q h => (by cases h)) (enF c3_0_k) (fun _ h => (by cases h))

def zc2 : AC := .inr (2, .inl [.inr (60, (.ofNat 0), (.ofNat 0))])
def zc3 : AC := .inr (0, .inl [.inr (60, (.ofNat 0), (.ofNat 0))])
noncomputable def c4_0 : Ct := (4, 1, (0, [], [], [.inr (.inl (some 0))], [.inl (5, [.inl (false, ((.ofNat 0), [])), .inr (.inl none), .inl (false, ((.ofNat 0), [])), .inl (false, ((.ofNat 0), [])), .inl (false, ((.ofNat 0), [])), .inr (.inl none), .inr (.inl none)])], []),
  [((0, [], [], [], [.inl (5, [.inl (false, ((.ofNat 0), [])), .inr (.inl (some 1)), .inl (false, ((.ofNat 1), [])), .inl (false, ((.ofNat 0), [])), .inl (false, ((.ofNat 0), [])), .inr (.inl (some 2)), .inr (.inl (some 3))]),
    zc2,
    zc3,
    .inr (1, .inr (.inl 1000000060))], []), 3, 180)])
noncomputable def c4_0_e : List Ct := []
noncomputable def c4_0_pts : List PE := []
set_option maxRecDepth 100000 in
theorem c4_0_k : enCtF c4_0 c4_0_e (c4_0_pts ++ []) (none) noH 4000 = true := by decide +kernel
set_option maxRecDepth 100000 in
theorem c4_0_v : ValidC PPk c4_0 := ct_ok fpk noH_ok (d := 0) (ext := []) (pts := c4_0_pts) (env := c4_0_e) rfl (fun _ h => (by cases h)) ext_nil (fun q h => (by cases h)) (enF c4_0_k) (fun _ h => (by cases h))

noncomputable def c5_0 : Ct := (5, 1, (0, [], [], [.inr (.inl (some 0))], [.inl (6, [.inl (false, ((.ofNat 0), [])), .inr (.inl none), .inr (.inl none), .inr (.inl none), .inr (.inl none), .inr (.inl none)])], []),
  [((0, [], [], [], [.inl (6, [.inl (false, ((.ofNat 0), [])), .inr (.inl (some 1)), .inr (.inl (some 2)), .inr (.inl (some 3)), .inr (.inl (some 4)), .inr (.inl (some 5))]),
    zc1,
    zc1,
    zc1,
    zc1,
    zc1], []), 5, 40)])
noncomputable def c5_0_e : List Ct := []
noncomputable def c5_0_pts : List PE := []
set_option maxRecDepth 100000 in
theorem c5_0_k : enCtF c5_0 c5_0_e (c5_0_pts ++ []) (none) noH 4000 = true := by decide +kernel
set_option maxRecDepth 100000 in
theorem c5_0_v : ValidC PPk c5_0 := ct_ok fpk noH_ok (d := 0) (ext := []) (pts := c5_0_pts) (env := c5_0_e) rfl (fun _ h => (by cases h)) ext_nil (fun q h => (by cases h)) (enF c5_0_k) (fun _ h => (by cases h))

noncomputable def c6_0 : Ct := (6, 1, (0, [], [], [.inr (.inl (some 0))], [.inl (2, [.inl (false, ((.ofNat 0), [])), .inr (.inl none), .inr (.inl none), .inr (.inl none), .inr (.inl none)])], []),
  [((0, [], [], [], [.inl (2, [.inl (false, ((.ofNat 0), [])), .inr (.inl (some 1)), .inr (.inl (some 2)), .inr (.inl (some 3)), .inr (.inl (some 4))]),
    zc3,
    zc3,
    zc3,
    zc3], [(0, [1, 2, 3, 4], [])]), 4, 240)])
noncomputable def c6_0_e : List Ct := []
noncomputable def c6_0_pts : List PE := []
set_option maxRecDepth 100000 in
theorem c6_0_k : enCtF c6_0 c6_0_e (c6_0_pts ++ []) (none) ((hNew 36 1 0), noM, 0, 68719476736, 0) 3000 = true := by decide +kernel
set_option maxRecDepth 100000 in
theorem c6_0_v : ValidC PPk c6_0 := ct_ok fpk ⟨(hNew_ok 36 1 0), noM_ok⟩ (d := 0) (ext := []) (pts := c6_0_pts) (env := c6_0_e) rfl (fun _ h => (by cases h)) ext_nil (fun q h => (by cases h)) (enF c6_0_k) (fun _ h => (by cases h))

def zc4 : AC := .inr (0, .inl [.inr (0, (.ofNat 0), (.ofNat 0)), .inl ((.negSucc 99), []), .inr (0, (.ofNat 0), (.ofNat 0)), .inl ((.negSucc 99), []), .inr (0, (.ofNat 0), (.ofNat 0)), .inl ((.negSucc 99), []), .inr (0, (.ofNat 0), (.ofNat 0)), .inl ((.negSucc 99), []), .inr (0, (.ofNat 0), (.ofNat 0))])
def zc5 : AC := .inr (0, .inl [.inr (0, (.ofNat 0), (.ofNat 0)), .inl ((.ofNat 100), []), .inr (0, (.ofNat 0), (.ofNat 0)), .inl ((.ofNat 100), []), .inr (0, (.ofNat 0), (.ofNat 0)), .inl ((.ofNat 100), []), .inr (0, (.ofNat 0), (.ofNat 0)), .inl ((.ofNat 100), []), .inr (0, (.ofNat 0), (.ofNat 0))])
def zc6 : AC := .inr (0, .inl [.inr (10, (.ofNat 0), (.ofNat 0))])
def zc7 : AC := .inr (0, .inl [.inr (4, (.ofNat 0), (.ofNat 0))])
noncomputable def c1_0 : Ct := (1, 2, (0, [], [], [.inr (.inl (some 0))], [.inl (1, [.inl (false, ((.ofNat 0), [])), .inr (.inl none), .inr (.inl none), .inr (.inl none), .inr (.inl none), .inl (false, ((.ofNat 0), [])), .inl (false, ((.ofNat 0), [])), .inr (.inl none), .inl (false, ((.ofNat 0), [])), .inl (false, ((.ofNat 0), [])), .inr (.inl none), .inr (.inl none), .inr (.inl none), .inr (.inl none), .inl (false, ((.ofNat 0), [])), .inr (.inl none), .inr (.inl none), .inr (.inl none)])], []),
  [((0, [], [], [], [.inl (1, [.inl (false, ((.ofNat 3), [])), .inr (.inl (some 1)), .inr (.inl (some 2)), .inr (.inl (some 8)), .inr (.inl (some 9)), .inl (false, ((.ofNat 3), [])), .inl (false, ((.ofNat 5), [])), .inr (.inl (some 10)), .inl (false, ((.ofNat 100), [])), .inl (false, ((.ofNat 0), [])), .inr (.inl (some 15)), .inr (.inl (some 16)), .inr (.inl (some 17)), .inr (.inl (some 21)), .inl (false, ((.ofNat 0), [])), .inr (.inl (some 27)), .inr (.inl (some 28)), .inr (.inl (some 29))]),
    .inr (4, .inr (.inr [some 30, some 35])),
    .inl (3, [.inr (.inl (some 3)), .inr (.inl (some 4)), .inl (false, ((.ofNat 0), [])), .inr (.inl (some 5)), .inr (.inl (some 6)), .inr (.inl (some 7))]),
    zc0,
    zc0,
    zc1,
    zc1,
    zc1,
    zc1,
    zc1,
    .inl (4, [.inl (false, ((.ofNat 0), [])), .inr (.inl (some 11)), .inr (.inl (some 12)), .inr (.inl (some 13)), .inr (.inl (some 14))]),
    zc0,
    zc0,
    zc0,
    zc0,
    zc4,
    zc5,
    .inl (5, [.inl (false, ((.ofNat 0), [])), .inr (.inl (some 18)), .inl (false, ((.ofNat 1), [])), .inl (false, ((.ofNat 0), [])), .inl (false, ((.ofNat 0), [])), .inr (.inl (some 19)), .inr (.inl (some 20))]),
    zc2,
    zc3,
    .inr (1, .inr (.inl 1000000060)),
    .inl (6, [.inl (false, ((.ofNat 0), [])), .inr (.inl (some 22)), .inr (.inl (some 23)), .inr (.inl (some 24)), .inr (.inl (some 25)), .inr (.inl (some 26))]),
    zc1,
    zc1,
    zc1,
    zc1,
    zc1,
    zc6,
    zc7,
    zc7,
    .inl (2, [.inl (false, ((.ofNat 0), [])), .inr (.inl (some 31)), .inr (.inl (some 32)), .inr (.inl (some 33)), .inr (.inl (some 34))]),
    zc3,
    zc3,
    zc3,
    zc3,
    .inl (2, [.inl (false, ((.ofNat 0), [])), .inr (.inl (some 36)), .inr (.inl (some 37)), .inr (.inl (some 38)), .inr (.inl (some 39))]),
    zc3,
    zc3,
    zc3,
    zc3], [(0, [31, 32, 33, 34], []), (0, [36, 37, 38, 39], [])]), 39, 838)])
noncomputable def c1_0_e : List Ct := [c2_0, c3_0, c4_0, c5_0, c6_0]
noncomputable def c1_0_pts : List PE := []
set_option maxRecDepth 100000 in
theorem c1_0_k : enCtF c1_0 c1_0_e (c1_0_pts ++ []) (none) noH 4000 = true := by decide +kernel
set_option maxRecDepth 100000 in
theorem c1_0_v : ValidC PPk c1_0 := ct_ok fpk noH_ok (d := 1) (ext := []) (pts := c1_0_pts) (env := c1_0_e) rfl (List.forall_mem_cons.mpr ⟨⟨c2_0_v, Nat.le_of_ble_eq_true rfl⟩, List.forall_mem_cons.mpr ⟨⟨c3_0_v, Nat.le_of_ble_eq_true rfl⟩, List.forall_mem_cons.mpr ⟨⟨c4_0_v, Nat.le_of_ble_eq_true rfl⟩, List.forall_mem_cons.mpr ⟨⟨c5_0_v, Nat.le_of_ble_eq_true rfl⟩, List.forall_mem_cons.mpr ⟨⟨c6_0_v, Nat.le_of_ble_eq_true rfl⟩, fun _ h => (by cases h)⟩⟩⟩⟩⟩) ext_nil (fun q h => (by cases h)) (enF c1_0_k) (fun _ h => (by cases h))

def zc8 : AC := .inl (9, [.inr (.inl (some 1)), .inr (.inl (some 2)), .inr (.inl (some 3)), .inl (false, ((.ofNat 0), []))])
def zc9 : AC := .inr (0, .inl [.inr (32, (.ofNat 0), (.ofNat 0))])
noncomputable def c8_0 : Ct := (8, 1, (0, [], [], [.inr (.inl (some 0))], [.inl (9, [.inr (.inl none), .inr (.inl none), .inr (.inl none), .inl (false, ((.ofNat 0), []))])], []),
  [((0, [], [], [], [zc8,
    zc9,
    zc1,
    zc1], []), 3, 48)])
noncomputable def c8_0_e : List Ct := []
noncomputable def c8_0_pts : List PE := []
set_option maxRecDepth 100000 in
theorem c8_0_k : enCtF c8_0 c8_0_e (c8_0_pts ++ []) (none) noH 4000 = true := by decide +kernel
set_option maxRecDepth 100000 in
theorem c8_0_v : ValidC PPk c8_0 := ct_ok fpk noH_ok (d := 0) (ext := []) (pts := c8_0_pts) (env := c8_0_e) rfl (fun _ h => (by cases h)) ext_nil (fun q h => (by cases h)) (enF c8_0_k) (fun _ h => (by cases h))

def zc10 : AC := .inl (8, [.inr (.inl (some 1)), .inl (false, ((.ofNat 0), [])), .inl (false, ((.ofNat 0), [])), .inl (false, ((.ofNat 0), [])), .inl (false, ((.ofNat 0), []))])
def zc11 : AC := .inr (0, .inl [.inr (12, (.ofNat 0), (.ofNat 0))])
noncomputable def c9_0 : Ct := (9, 1, (0, [], [], [.inr (.inl (some 0))], [.inl (8, [.inr (.inl none), .inl (false, ((.ofNat 0), [])), .inl (false, ((.ofNat 0), [])), .inl (false, ((.ofNat 0), [])), .inl (false, ((.ofNat 0), []))])], []),
  [((0, [], [], [], [zc10,
    zc11], []), 1, 12)])
noncomputable def c9_0_e : List Ct := []
noncomputable def c9_0_pts : List PE := []
set_option maxRecDepth 100000 in
theorem c9_0_k : enCtF c9_0 c9_0_e (c9_0_pts ++ []) (none) noH 4000 = true := by decide +kernel
set_option maxRecDepth 100000 in
theorem c9_0_v : ValidC PPk c9_0 := ct_ok fpk noH_ok (d := 0) (ext := []) (pts := c9_0_pts) (env := c9_0_e) rfl (fun _ h => (by cases h)) ext_nil (fun q h => (by cases h)) (enF c9_0_k) (fun _ h => (by cases h))

def zc12 : AC := .inr (0, .inl [.inr (2, (.ofNat 0), (.ofNat 0))])
noncomputable def c7_0 : Ct := (7, 2, (0, [], [], [.inr (.inl (some 0))], [.inl (7, [.inr (.inl none), .inl (false, ((.ofNat 0), [])), .inr (.inl none), .inr (.inl none), .inr (.inl none), .inl (false, ((.ofNat 0), [])), .inl (false, ((.ofNat 0), [])), .inl (false, ((.ofNat 0), [])), .inl (false, ((.ofNat 0), [])), .inl (false, ((.ofNat 0), [])), .inl (false, ((.ofNat 0), [])), .inl (false, ((.ofNat 0), [])), .inl (false, ((.ofNat 0), [])), .inl (false, ((.ofNat 0), [])), .inl (false, ((.ofNat 0), [])), .inl (false, ((.ofNat 0), [])), .inl (false, ((.ofNat 0), []))])], []),
  [((0, [], [], [], [.inl (7, [.inr (.inl (some 1)), .inl (false, ((.ofNat 7), [])), .inr (.inl (some 2)), .inr (.inl (some 6)), .inr (.inl (some 7)), .inl (false, ((.ofNat 0), [])), .inl (false, ((.ofNat 0), [])), .inl (false, ((.ofNat 0), [])), .inl (false, ((.ofNat 0), [])), .inl (false, ((.ofNat 0), [])), .inl (false, ((.ofNat 0), [])), .inl (false, ((.ofNat 0), [])), .inl (false, ((.ofNat 0), [])), .inl (false, ((.ofNat 0), [])), .inl (false, ((.ofNat 0), [])), .inl (false, ((.ofNat 0), [])), .inl (false, ((.negSucc 0), []))]),
    .inr (5, .inr (.inr [some 8, some 10, some 12, some 14])),
    .inl (9, [.inr (.inl (some 3)), .inr (.inl (some 4)), .inr (.inl (some 5)), .inl (false, ((.ofNat 0), []))]),
    zc9,
    zc1,
    zc1,
    zc12,
    zc0,
    .inl (8, [.inr (.inl (some 9)), .inl (false, ((.ofNat 0), [])), .inl (false, ((.ofNat 0), [])), .inl (false, ((.ofNat 0), [])), .inl (false, ((.ofNat 0), []))]),
    zc11,
    .inl (8, [.inr (.inl (some 11)), .inl (false, ((.ofNat 0), [])), .inl (false, ((.ofNat 0), [])), .inl (false, ((.ofNat 0), [])), .inl (false, ((.ofNat 0), []))]),
    zc11,
    .inl (8, [.inr (.inl (some 13)), .inl (false, ((.ofNat 0), [])), .inl (false, ((.ofNat 0), [])), .inl (false, ((.ofNat 0), [])), .inl (false, ((.ofNat 0), []))]),
    zc11,
    .inl (8, [.inr (.inl (some 15)), .inl (false, ((.ofNat 0), [])), .inl (false, ((.ofNat 0), [])), .inl (false, ((.ofNat 0), [])), .inl (false, ((.ofNat 0), []))]),
    zc11], []), 15, 132)])
noncomputable def c7_0_e : List Ct := [c8_0, c9_0]
noncomputable def c7_0_pts : List PE := []
set_option maxRecDepth 100000 in
theorem c7_0_k : enCtF c7_0 c7_0_e (c7_0_pts ++ []) (none) noH 4000 = true := by decide +kernel
set_option maxRecDepth 100000 in
theorem c7_0_v : ValidC PPk c7_0 := ct_ok fpk noH_ok (d := 1) (ext := []) (pts := c7_0_pts) (env := c7_0_e) rfl (List.forall_mem_cons.mpr ⟨⟨c8_0_v, Nat.le_of_ble_eq_true rfl⟩, List.forall_mem_cons.mpr ⟨⟨c9_0_v, Nat.le_of_ble_eq_true rfl⟩, fun _ h => (by cases h)⟩⟩) ext_nil (fun q h => (by cases h)) (enF c7_0_k) (fun _ h => (by cases h))

def zc13 : AC := .inl (1, [.inl (false, ((.ofNat 3), [])), .inr (.inl (some 2)), .inr (.inl (some 13)), .inr (.inl (some 19)), .inr (.inl (some 20)), .inl (false, ((.ofNat 3), [])), .inl (false, ((.ofNat 5), [])), .inr (.inl (some 21)), .inl (false, ((.ofNat 100), [])), .inl (false, ((.ofNat 0), [])), .inr (.inl (some 26)), .inr (.inl (some 27)), .inr (.inl (some 28)), .inr (.inl (some 32)), .inl (false, ((.ofNat 0), [])), .inr (.inl (some 38)), .inr (.inl (some 39)), .inr (.inl (some 40))])
def zc14 : AC := .inl (2, [.inl (false, ((.ofNat 0), [])), .inr (.inl (some 4)), .inr (.inl (some 5)), .inr (.inl (some 6)), .inr (.inl (some 7))])
def zc15 : AC := .inl (2, [.inl (false, ((.ofNat 0), [])), .inr (.inl (some 9)), .inr (.inl (some 10)), .inr (.inl (some 11)), .inr (.inl (some 12))])
def zc16 : AC := .inl (3, [.inr (.inl (some 14)), .inr (.inl (some 15)), .inl (false, ((.ofNat 0), [])), .inr (.inl (some 16)), .inr (.inl (some 17)), .inr (.inl (some 18))])
def zc17 : AC := .inl (4, [.inl (false, ((.ofNat 0), [])), .inr (.inl (some 22)), .inr (.inl (some 23)), .inr (.inl (some 24)), .inr (.inl (some 25))])
def zc18 : AC := .inl (5, [.inl (false, ((.ofNat 0), [])), .inr (.inl (some 29)), .inl (false, ((.ofNat 1), [])), .inl (false, ((.ofNat 0), [])), .inl (false, ((.ofNat 0), [])), .inr (.inl (some 30)), .inr (.inl (some 31))])
def zc19 : AC := .inl (6, [.inl (false, ((.ofNat 0), [])), .inr (.inl (some 33)), .inr (.inl (some 34)), .inr (.inl (some 35)), .inr (.inl (some 36)), .inr (.inl (some 37))])
def zc20 : AC := .inl (10, [.inr (.inl (some 1)), .inr (.inl (some 41)), .inr (.inl (some 42))])
noncomputable def c10_0 : Ct := (10, 1, (0, [], [], [.inr (.inl (some 0)), .inr (.inl (some 1))], [.inl (10, [.inr (.inl none), .inr (.inl none), .inr (.inl none)]),
    zc13,
    .inr (4, .inr (.inr [some 3, some 8])),
    zc14,
    zc3,
    zc3,
    zc3,
    zc3,
    zc15,
    zc3,
    zc3,
    zc3,
    zc3,
    zc16,
    zc0,
    zc0,
    zc1,
    zc1,
    zc1,
    zc1,
    zc1,
    zc17,
    zc0,
    zc0,
    zc0,
    zc0,
    zc4,
    zc5,
    zc18,
    zc2,
    zc3,
    .inr (1, .inr (.inl 1000000060)),
    zc19,
    zc1,
    zc1,
    zc1,
    zc1,
    zc1,
    zc6,
    zc7,
    zc7], [(0, [4, 5, 6, 7], []), (0, [9, 10, 11, 12], [])]),
  [((0, [], [], [], [zc20,
    zc13,
    .inr (4, .inr (.inr [some 3, some 8])),
    zc14,
    zc3,
    zc3,
    zc3,
    zc3,
    zc15,
    zc3,
    zc3,
    zc3,
    zc3,
    zc16,
    zc0,
    zc0,
    zc1,
    zc1,
    zc1,
    zc1,
    zc1,
    zc17,
    zc0,
    zc0,
    zc0,
    zc0,
    zc4,
    zc5,
    zc18,
    zc2,
    zc3,
    .inr (1, .inr (.inl 1000000060)),
    zc19,
    zc1,
    zc1,
    zc1,
    zc1,
    zc1,
    zc6,
    zc7,
    zc7,
    .inr (1, .inr (.inl 1000000006)),
    .inr (1, .inr (.inl 1000000004))], [(0, [4, 5, 6, 7], []), (0, [9, 10, 11, 12], [])]), 2, 10)])
noncomputable def c10_0_e : List Ct := []
noncomputable def c10_0_pts : List PE := []
set_option maxRecDepth 100000 in
theorem c10_0_k : enCtF c10_0 c10_0_e (c10_0_pts ++ []) (none) noH 4000 = true := by decide +kernel
set_option maxRecDepth 100000 in
theorem c10_0_v : ValidC PPk c10_0 := ct_ok fpk noH_ok (d := 0) (ext := []) (pts := c10_0_pts) (env := c10_0_e) rfl (fun _ h => (by cases h)) ext_nil (fun q h => (by cases h)) (enF c10_0_k) (fun _ h => (by cases h))

def zc21 : AC := .inl (0, [.inr (.inl (some 1)), .inr (.inl (some 41)), .inr (.inl (some 57)), .inr (.inl none), .inr (.inl (some 60)), .inr (.inl (some 61))])
def zc22 : AC := .inl (10, [.inr (.inl (some 1)), .inr (.inl (some 58)), .inr (.inl (some 59))])
noncomputable def c0_0 : Ct := (0, 3, (0, [], [], [.inr (.inl (some 0))], [.inl (0, [.inr (.inl none), .inr (.inl none), .inr (.inl none), .inr (.inl none), .inr (.inl none), .inr (.inl none)])], []),
  [((0, [], [], [], [zc21,
    .inl (1, [.inl (false, ((.ofNat 3), [])), .inr (.inl (some 2)), .inr (.inl (some 3)), .inr (.inl (some 9)), .inr (.inl (some 10)), .inl (false, ((.ofNat 3), [])), .inl (false, ((.ofNat 5), [])), .inr (.inl (some 11)), .inl (false, ((.ofNat 100), [])), .inl (false, ((.ofNat 0), [])), .inr (.inl (some 16)), .inr (.inl (some 17)), .inr (.inl (some 18)), .inr (.inl (some 22)), .inl (false, ((.ofNat 0), [])), .inr (.inl (some 28)), .inr (.inl (some 29)), .inr (.inl (some 30))]),
    .inr (4, .inr (.inr [some 31, some 36])),
    .inl (3, [.inr (.inl (some 4)), .inr (.inl (some 5)), .inl (false, ((.ofNat 0), [])), .inr (.inl (some 6)), .inr (.inl (some 7)), .inr (.inl (some 8))]),
    zc0,
    zc0,
    zc1,
    zc1,
    zc1,
    zc1,
    zc1,
    .inl (4, [.inl (false, ((.ofNat 0), [])), .inr (.inl (some 12)), .inr (.inl (some 13)), .inr (.inl (some 14)), .inr (.inl (some 15))]),
    zc0,
    zc0,
    zc0,
    zc0,
    zc4,
    zc5,
    .inl (5, [.inl (false, ((.ofNat 0), [])), .inr (.inl (some 19)), .inl (false, ((.ofNat 1), [])), .inl (false, ((.ofNat 0), [])), .inl (false, ((.ofNat 0), [])), .inr (.inl (some 20)), .inr (.inl (some 21))]),
    zc2,
    zc3,
    .inr (1, .inr (.inl 1000000060)),
    .inl (6, [.inl (false, ((.ofNat 0), [])), .inr (.inl (some 23)), .inr (.inl (some 24)), .inr (.inl (some 25)), .inr (.inl (some 26)), .inr (.inl (some 27))]),
    zc1,
    zc1,
    zc1,
    zc1,
    zc1,
    zc6,
    zc7,
    zc7,
    .inl (2, [.inl (false, ((.ofNat 0), [])), .inr (.inl (some 32)), .inr (.inl (some 33)), .inr (.inl (some 34)), .inr (.inl (some 35))]),
    zc3,
    zc3,
    zc3,
    zc3,
    .inl (2, [.inl (false, ((.ofNat 0), [])), .inr (.inl (some 37)), .inr (.inl (some 38)), .inr (.inl (some 39)), .inr (.inl (some 40))]),
    zc3,
    zc3,
    zc3,
    zc3,
    .inl (7, [.inr (.inl (some 42)), .inl (false, ((.ofNat 7), [])), .inr (.inl (some 43)), .inr (.inl (some 47)), .inr (.inl (some 48)), .inl (false, ((.ofNat 0), [])), .inl (false, ((.ofNat 0), [])), .inl (false, ((.ofNat 0), [])), .inl (false, ((.ofNat 0), [])), .inl (false, ((.ofNat 0), [])), .inl (false, ((.ofNat 0), [])), .inl (false, ((.ofNat 0), [])), .inl (false, ((.ofNat 0), [])), .inl (false, ((.ofNat 0), [])), .inl (false, ((.ofNat 0), [])), .inl (false, ((.ofNat 0), [])), .inl (false, ((.negSucc 0), []))]),
    .inr (5, .inr (.inr [some 49, some 51, some 53, some 55])),
    .inl (9, [.inr (.inl (some 44)), .inr (.inl (some 45)), .inr (.inl (some 46)), .inl (false, ((.ofNat 0), []))]),
    zc9,
    zc1,
    zc1,
    zc12,
    zc0,
    .inl (8, [.inr (.inl (some 50)), .inl (false, ((.ofNat 0), [])), .inl (false, ((.ofNat 0), [])), .inl (false, ((.ofNat 0), [])), .inl (false, ((.ofNat 0), []))]),
    zc11,
    .inl (8, [.inr (.inl (some 52)), .inl (false, ((.ofNat 0), [])), .inl (false, ((.ofNat 0), [])), .inl (false, ((.ofNat 0), [])), .inl (false, ((.ofNat 0), []))]),
    zc11,
    .inl (8, [.inr (.inl (some 54)), .inl (false, ((.ofNat 0), [])), .inl (false, ((.ofNat 0), [])), .inl (false, ((.ofNat 0), [])), .inl (false, ((.ofNat 0), []))]),
    zc11,
    .inl (8, [.inr (.inl (some 56)), .inl (false, ((.ofNat 0), [])), .inl (false, ((.ofNat 0), [])), .inl (false, ((.ofNat 0), [])), .inl (false, ((.ofNat 0), []))]),
    zc11,
    zc22,
    .inr (1, .inr (.inl 1000000006)),
    .inr (1, .inr (.inl 1000000004)),
    .inr (6, .inr (.inr [none, none])),
    .inr (7, .inr (.inr [none, none]))], [(0, [32, 33, 34, 35], []), (0, [37, 38, 39, 40], [])]), 61, 1022)])
noncomputable def c0_0_e : List Ct := [c1_0, c7_0, c10_0]
noncomputable def c0_0_pts : List PE := []
set_option maxRecDepth 100000 in
theorem c0_0_k : enCtF c0_0 c0_0_e (c0_0_pts ++ []) (none) noH 4000 = true := by decide +kernel
set_option maxRecDepth 100000 in
theorem c0_0_v : ValidC PPk c0_0 := ct_ok fpk noH_ok (d := 2) (ext := []) (pts := c0_0_pts) (env := c0_0_e) rfl (List.forall_mem_cons.mpr ⟨⟨c1_0_v, Nat.le_of_ble_eq_true rfl⟩, List.forall_mem_cons.mpr ⟨⟨c7_0_v, Nat.le_of_ble_eq_true rfl⟩, List.forall_mem_cons.mpr ⟨⟨c10_0_v, Nat.le_of_ble_eq_true rfl⟩, fun _ h => (by cases h)⟩⟩⟩) ext_nil (fun q h => (by cases h)) (enF c0_0_k) (fun _ h => (by cases h))

def zc23 : AC := .inl (12, [.inr (.inl (some 1)), .inr (.inl (some 2)), .inr (.inl (some 3)), .inl (false, ((.ofNat 0), [])), .inr (.inl (some 4)), .inr (.inl (some 5)), .inl (false, ((.ofNat 0), [])), .inr (.inl (some 6)), .inr (.inl (some 7)), .inl (false, ((.ofNat 0), [])), .inr (.inl (some 8)), .inl (false, ((.ofNat 0), [])), .inr (.inl (some 9)), .inr (.inl (some 10)), .inr (.inl (some 11)), .inr (.inl (some 12)), .inl (false, ((.ofNat 0), [])), .inl (false, ((.ofNat 0), [])), .inl (false, ((.ofNat 0), [])), .inr (.inl (some 13)), .inl (false, ((.ofNat 0), [])), .inl (false, ((.ofNat 0), [])), .inl (false, ((.ofNat 0), [])), .inr (.inl (some 14))])
def zc24 : AC := .inr (0, .inl [.inr (0, (.ofNat 0), (.ofNat 0)), .inl ((.ofNat 3), []), .inr (7, (.ofNat 0), (.ofNat 0)), .inl ((.ofNat 3), []), .inr (0, (.ofNat 0), (.ofNat 0)), .inl ((.ofNat 5), []), .inr (7, (.ofNat 0), (.ofNat 0)), .inl ((.ofNat 100), []), .inr (2, (.ofNat 0), (.ofNat 0)), .inl ((.negSucc 0), []), .inr (21, (.ofNat 0), (.ofNat 0)), .inl ((.ofNat 1), []), .inr (39, (.ofNat 0), (.ofNat 0)), .inl ((.ofNat 1), []), .inr (39, (.ofNat 0), (.ofNat 0)), .inl ((.ofNat 1), []), .inr (39, (.ofNat 0), (.ofNat 0)), .inl ((.ofNat 1), []), .inr (621, (.ofNat 0), (.ofNat 0)), .inl ((.negSucc 99), []), .inr (0, (.ofNat 0), (.ofNat 0)), .inl ((.ofNat 100), []), .inr (0, (.ofNat 0), (.ofNat 0)), .inl ((.negSucc 99), []), .inr (0, (.ofNat 0), (.ofNat 0)), .inl ((.ofNat 100), []), .inr (0, (.ofNat 0), (.ofNat 0)), .inl ((.negSucc 99), []), .inr (0, (.ofNat 0), (.ofNat 0)), .inl ((.ofNat 100), []), .inr (0, (.ofNat 0), (.ofNat 0)), .inl ((.negSucc 99), []), .inr (0, (.ofNat 0), (.ofNat 0)), .inl ((.ofNat 100), []), .inr (118, (.ofNat 0), (.ofNat 0))])
def zc25 : AC := .inr (0, .inl [.inr (1820, (.ofNat 0), (.ofNat 0))])
def zc26 : AC := .inr (3, .inl [.inr (2, (.ofNat 0), (.ofNat 0))])
def zc27 : AC := .inr (0, .inl [.inr (70, (.ofNat 0), (.ofNat 0))])
def zc28 : AC := .inr (0, .inl [.inr (910, (.ofNat 0), (.ofNat 0))])
def zc29 : AC := .inr (0, .inl [.inr (20, (.ofNat 0), (.ofNat 0))])
def zc30 : AC := .inr (0, .inl [.inr (0, (.ofNat 0), (.ofNat 0)), .inl ((.ofNat 3), []), .inr (7, (.ofNat 0), (.ofNat 0)), .inl ((.ofNat 3), []), .inr (0, (.ofNat 0), (.ofNat 0)), .inl ((.ofNat 5), []), .inr (7, (.ofNat 0), (.ofNat 0)), .inl ((.ofNat 100), []), .inr (2, (.ofNat 0), (.ofNat 0)), .inl ((.negSucc 0), []), .inr (21, (.ofNat 0), (.ofNat 0)), .inl ((.ofNat 1), []), .inr (39, (.ofNat 0), (.ofNat 0)), .inl ((.ofNat 1), []), .inr (39, (.ofNat 0), (.ofNat 0)), .inl ((.ofNat 1), []), .inr (39, (.ofNat 0), (.ofNat 0)), .inl ((.ofNat 1), []), .inr (747, (.ofNat 0), (.ofNat 0))])
noncomputable def c143_0 : Ct := (143, 1, (0, [], [], [.inr (.inl (some 0))], [.inl (12, [.inr (.inl none), .inr (.inl none), .inr (.inl none), .inl (false, ((.ofNat 0), [])), .inr (.inl none), .inr (.inl none), .inl (false, ((.ofNat 0), [])), .inr (.inl none), .inr (.inl none), .inl (false, ((.ofNat 0), [])), .inr (.inl none), .inl (false, ((.ofNat 0), [])), .inr (.inl none), .inr (.inl none), .inr (.inl none), .inr (.inl none), .inl (false, ((.ofNat 0), [])), .inl (false, ((.ofNat 0), [])), .inl (false, ((.ofNat 0), [])), .inr (.inl none), .inl (false, ((.ofNat 0), [])), .inl (false, ((.ofNat 0), [])), .inl (false, ((.ofNat 0), [])), .inr (.inl none)])], []),
  [((0, [], [], [], [zc23,
    zc24,
    zc25,
    zc26,
    zc27,
    zc27,
    zc27,
    .inr (1, .inr (.inl 1000000070)),
    .inr (1, .inr (.inl 1000000008)),
    zc28,
    zc28,
    zc29,
    zc29,
    zc28,
    .inr (1, .inr (.inl 1000000004))], [(2, [1], []), (1, [1], [])]), 14, 5794)])
noncomputable def c143_0_e : List Ct := []
noncomputable def c143_0_p0 : PE := (161, [0, 1], (0, [], [], [.inr (.inl (some 0)), .inl (false, ((.ofNat 0), []))], [zc23,
    .inr (0, .inl [.inr (0, (.ofNat 0), (.ofNat 0)), .inl ((.ofNat 3), []), .inr (7, (.ofNat 0), (.ofNat 0)), .inl ((.ofNat 3), []), .inr (0, (.ofNat 0), (.ofNat 0)), .inl ((.ofNat 5), []), .inr (7, (.ofNat 0), (.ofNat 0)), .inl ((.ofNat 100), []), .inr (2, (.ofNat 0), (.ofNat 0)), .inl ((.negSucc 0), []), .inr (889, (.ofNat 0), (.ofNat 0))]),
    zc25,
    zc26,
    zc27,
    zc27,
    zc27,
    .inr (1, .inr (.inl 1000000070)),
    .inr (1, .inr (.inl 1000000008)),
    zc28,
    zc28,
    zc29,
    zc29,
    zc28,
    .inr (1, .inr (.inl 1000000004))], [(2, [1], []), (1, [1], [])]), symsL 0 0, some ((.ofNat 14), []), 14, 5794)
noncomputable def c143_0_p1 : PE := (161, [0, 1], (0, [], [], [.inr (.inl (some 0)), .inl (false, ((.ofNat 1), []))], [zc23,
    .inr (0, .inl [.inr (0, (.ofNat 0), (.ofNat 0)), .inl ((.ofNat 3), []), .inr (7, (.ofNat 0), (.ofNat 0)), .inl ((.ofNat 3), []), .inr (0, (.ofNat 0), (.ofNat 0)), .inl ((.ofNat 5), []), .inr (7, (.ofNat 0), (.ofNat 0)), .inl ((.ofNat 100), []), .inr (2, (.ofNat 0), (.ofNat 0)), .inl ((.negSucc 0), []), .inr (21, (.ofNat 0), (.ofNat 0)), .inl ((.ofNat 1), []), .inr (867, (.ofNat 0), (.ofNat 0))]),
    zc25,
    zc26,
    zc27,
    zc27,
    zc27,
    .inr (1, .inr (.inl 1000000070)),
    .inr (1, .inr (.inl 1000000008)),
    zc28,
    zc28,
    zc29,
    zc29,
    zc28,
    .inr (1, .inr (.inl 1000000004))], [(2, [1], []), (1, [1], [])]), symsL 0 0, some ((.ofNat 13), []), 14, 5794)
noncomputable def c143_0_p2 : PE := (161, [0, 1], (0, [], [], [.inr (.inl (some 0)), .inl (false, ((.ofNat 2), []))], [zc23,
    .inr (0, .inl [.inr (0, (.ofNat 0), (.ofNat 0)), .inl ((.ofNat 3), []), .inr (7, (.ofNat 0), (.ofNat 0)), .inl ((.ofNat 3), []), .inr (0, (.ofNat 0), (.ofNat 0)), .inl ((.ofNat 5), []), .inr (7, (.ofNat 0), (.ofNat 0)), .inl ((.ofNat 100), []), .inr (2, (.ofNat 0), (.ofNat 0)), .inl ((.negSucc 0), []), .inr (21, (.ofNat 0), (.ofNat 0)), .inl ((.ofNat 1), []), .inr (39, (.ofNat 0), (.ofNat 0)), .inl ((.ofNat 1), []), .inr (827, (.ofNat 0), (.ofNat 0))]),
    zc25,
    zc26,
    zc27,
    zc27,
    zc27,
    .inr (1, .inr (.inl 1000000070)),
    .inr (1, .inr (.inl 1000000008)),
    zc28,
    zc28,
    zc29,
    zc29,
    zc28,
    .inr (1, .inr (.inl 1000000004))], [(2, [1], []), (1, [1], [])]), symsL 0 0, some ((.ofNat 12), []), 14, 5794)
noncomputable def c143_0_p3 : PE := (161, [0, 1], (0, [], [], [.inr (.inl (some 0)), .inl (false, ((.ofNat 3), []))], [zc23,
    .inr (0, .inl [.inr (0, (.ofNat 0), (.ofNat 0)), .inl ((.ofNat 3), []), .inr (7, (.ofNat 0), (.ofNat 0)), .inl ((.ofNat 3), []), .inr (0, (.ofNat 0), (.ofNat 0)), .inl ((.ofNat 5), []), .inr (7, (.ofNat 0), (.ofNat 0)), .inl ((.ofNat 100), []), .inr (2, (.ofNat 0), (.ofNat 0)), .inl ((.negSucc 0), []), .inr (21, (.ofNat 0), (.ofNat 0)), .inl ((.ofNat 1), []), .inr (39, (.ofNat 0), (.ofNat 0)), .inl ((.ofNat 1), []), .inr (39, (.ofNat 0), (.ofNat 0)), .inl ((.ofNat 1), []), .inr (787, (.ofNat 0), (.ofNat 0))]),
    zc25,
    zc26,
    zc27,
    zc27,
    zc27,
    .inr (1, .inr (.inl 1000000070)),
    .inr (1, .inr (.inl 1000000008)),
    zc28,
    zc28,
    zc29,
    zc29,
    zc28,
    .inr (1, .inr (.inl 1000000004))], [(2, [1], []), (1, [1], [])]), symsL 0 0, some ((.ofNat 11), []), 14, 5794)
noncomputable def c143_0_p4 : PE := (161, [0, 1], (0, [], [], [.inr (.inl (some 0)), .inl (false, ((.ofNat 4), []))], [zc23,
    zc30,
    zc25,
    zc26,
    zc27,
    zc27,
    zc27,
    .inr (1, .inr (.inl 1000000070)),
    .inr (1, .inr (.inl 1000000008)),
    zc28,
    zc28,
    zc29,
    zc29,
    zc28,
    .inr (1, .inr (.inl 1000000004))], [(2, [1], []), (1, [1], [])]), symsL 0 0, some ((.ofNat 10), []), 14, 5794)
noncomputable def c143_0_p5 : PE := (190, [0, 1], (0, [], [], [.inr (.inl (some 0)), .inl (false, ((.ofNat 0), []))], [zc23,
    zc30,
    zc25,
    zc26,
    zc27,
    zc27,
    zc27,
    .inr (1, .inr (.inl 1000000070)),
    .inr (1, .inr (.inl 1000000008)),
    zc28,
    zc28,
    zc29,
    zc29,
    zc28,
    .inr (1, .inr (.inl 1000000004))], [(2, [1], []), (1, [1], [])]), symsL 0 0, some ((.ofNat 9), []), 14, 5794)
noncomputable def c143_0_p6 : PE := (190, [0, 1], (0, [], [], [.inr (.inl (some 0)), .inl (false, ((.ofNat 1), []))], [zc23,
    .inr (0, .inl [.inr (0, (.ofNat 0), (.ofNat 0)), .inl ((.ofNat 3), []), .inr (7, (.ofNat 0), (.ofNat 0)), .inl ((.ofNat 3), []), .inr (0, (.ofNat 0), (.ofNat 0)), .inl ((.ofNat 5), []), .inr (7, (.ofNat 0), (.ofNat 0)), .inl ((.ofNat 100), []), .inr (2, (.ofNat 0), (.ofNat 0)), .inl ((.negSucc 0), []), .inr (21, (.ofNat 0), (.ofNat 0)), .inl ((.ofNat 1), []), .inr (39, (.ofNat 0), (.ofNat 0)), .inl ((.ofNat 1), []), .inr (39, (.ofNat 0), (.ofNat 0)), .inl ((.ofNat 1), []), .inr (39, (.ofNat 0), (.ofNat 0)), .inl ((.ofNat 1), []), .inr (621, (.ofNat 0), (.ofNat 0)), .inl ((.negSucc 99), []), .inr (0, (.ofNat 0), (.ofNat 0)), .inl ((.ofNat 100), []), .inr (124, (.ofNat 0), (.ofNat 0))]),
    zc25,
    zc26,
    zc27,
    zc27,
    zc27,
    .inr (1, .inr (.inl 1000000070)),
    .inr (1, .inr (.inl 1000000008)),
    zc28,
    zc28,
    zc29,
    zc29,
    zc28,
    .inr (1, .inr (.inl 1000000004))], [(2, [1], []), (1, [1], [])]), symsL 0 0, some ((.ofNat 8), []), 14, 5794)
noncomputable def c143_0_p7 : PE := (190, [0, 1], (0, [], [], [.inr (.inl (some 0)), .inl (false, ((.ofNat 2), []))], [zc23,
    .inr (0, .inl [.inr (0, (.ofNat 0), (.ofNat 0)), .inl ((.ofNat 3), []), .inr (7, (.ofNat 0), (.ofNat 0)), .inl ((.ofNat 3), []), .inr (0, (.ofNat 0), (.ofNat 0)), .inl ((.ofNat 5), []), .inr (7, (.ofNat 0), (.ofNat 0)), .inl ((.ofNat 100), []), .inr (2, (.ofNat 0), (.ofNat 0)), .inl ((.negSucc 0), []), .inr (21, (.ofNat 0), (.ofNat 0)), .inl ((.ofNat 1), []), .inr (39, (.ofNat 0), (.ofNat 0)), .inl ((.ofNat 1), []), .inr (39, (.ofNat 0), (.ofNat 0)), .inl ((.ofNat 1), []), .inr (39, (.ofNat 0), (.ofNat 0)), .inl ((.ofNat 1), []), .inr (621, (.ofNat 0), (.ofNat 0)), .inl ((.negSucc 99), []), .inr (0, (.ofNat 0), (.ofNat 0)), .inl ((.ofNat 100), []), .inr (0, (.ofNat 0), (.ofNat 0)), .inl ((.negSucc 99), []), .inr (0, (.ofNat 0), (.ofNat 0)), .inl ((.ofNat 100), []), .inr (122, (.ofNat 0), (.ofNat 0))]),
    zc25,
    zc26,
    zc27,
    zc27,
    zc27,
    .inr (1, .inr (.inl 1000000070)),
    .inr (1, .inr (.inl 1000000008)),
    zc28,
    zc28,
    zc29,
    zc29,
    zc28,
    .inr (1, .inr (.inl 1000000004))], [(2, [1], []), (1, [1], [])]), symsL 0 0, some ((.ofNat 7), []), 14, 5794)
noncomputable def c143_0_p8 : PE := (190, [0, 1], (0, [], [], [.inr (.inl (some 0)), .inl (false, ((.ofNat 3), []))], [zc23,
    .inr (0, .inl [.inr (0, (.ofNat 0), (.ofNat 0)), .inl ((.ofNat 3), []), .inr (7, (.ofNat 0), (.ofNat 0)), .inl ((.ofNat 3), []), .inr (0, (.ofNat 0), (.ofNat 0)), .inl ((.ofNat 5), []), .inr (7, (.ofNat 0), (.ofNat 0)), .inl ((.ofNat 100), []), .inr (2, (.ofNat 0), (.ofNat 0)), .inl ((.negSucc 0), []), .inr (21, (.ofNat 0), (.ofNat 0)), .inl ((.ofNat 1), []), .inr (39, (.ofNat 0), (.ofNat 0)), .inl ((.ofNat 1), []), .inr (39, (.ofNat 0), (.ofNat 0)), .inl ((.ofNat 1), []), .inr (39, (.ofNat 0), (.ofNat 0)), .inl ((.ofNat 1), []), .inr (621, (.ofNat 0), (.ofNat 0)), .inl ((.negSucc 99), []), .inr (0, (.ofNat 0), (.ofNat 0)), .inl ((.ofNat 100), []), .inr (0, (.ofNat 0), (.ofNat 0)), .inl ((.negSucc 99), []), .inr (0, (.ofNat 0), (.ofNat 0)), .inl ((.ofNat 100), []), .inr (0, (.ofNat 0), (.ofNat 0)), .inl ((.negSucc 99), []), .inr (0, (.ofNat 0), (.ofNat 0)), .inl ((.ofNat 100), []), .inr (120, (.ofNat 0), (.ofNat 0))]),
    zc25,
    zc26,
    zc27,
    zc27,
    zc27,
    .inr (1, .inr (.inl 1000000070)),
    .inr (1, .inr (.inl 1000000008)),
    zc28,
    zc28,
    zc29,
    zc29,
    zc28,
    .inr (1, .inr (.inl 1000000004))], [(2, [1], []), (1, [1], [])]), symsL 0 0, some ((.ofNat 6), []), 14, 5794)
noncomputable def c143_0_p9 : PE := (190, [0, 1], (0, [], [], [.inr (.inl (some 0)), .inl (false, ((.ofNat 4), []))], [zc23,
    zc24,
    zc25,
    zc26,
    zc27,
    zc27,
    zc27,
    .inr (1, .inr (.inl 1000000070)),
    .inr (1, .inr (.inl 1000000008)),
    zc28,
    zc28,
    zc29,
    zc29,
    zc28,
    .inr (1, .inr (.inl 1000000004))], [(2, [1], []), (1, [1], [])]), symsL 0 0, some ((.ofNat 5), []), 14, 5794)
noncomputable def c143_0_pts : List PE := [c143_0_p0, c143_0_p1, c143_0_p2, c143_0_p3, c143_0_p4, c143_0_p5, c143_0_p6, c143_0_p7, c143_0_p8, c143_0_p9]
set_option maxRecDepth 100000 in
theorem c143_0_k : enCtF c143_0 c143_0_e (c143_0_pts ++ []) (none) ((hOr (hNew 13 0 1) (atPc 14 (fHarmN 0))), noM, 1569275436769673465620753192209286269458154900427873714176, 24576, 0) 3000 = true := by decide +kernel
set_option maxRecDepth 100000 in
theorem c143_0_k0 : ptCtF c143_0 c143_0_e (c143_0_pts ++ []) ((hOr (hNew 13 0 1) (atPc 14 (fHarmN 0))), noM, 1569275436769673465620753192209286269458154900427873714176, 24576, 0) 3000 c143_0_p0 = true := by decide +kernel
set_option maxRecDepth 100000 in
theorem c143_0_k1 : ptCtF c143_0 c143_0_e (c143_0_pts ++ []) ((hOr (hNew 13 0 1) (atPc 14 (fHarmN 0))), noM, 1569275436769673465620753192209286269458154900427873714176, 24576, 0) 3000 c143_0_p1 = true := by decide +kernel
set_option maxRecDepth 100000 in
theorem c143_0_k2 : ptCtF c143_0 c143_0_e (c143_0_pts ++ []) ((hOr (hNew 13 0 1) (atPc 14 (fHarmN 0))), noM, 1569275436769673465620753192209286269458154900427873714176, 24576, 0) 3000 c143_0_p2 = true := by decide +kernel
set_option maxRecDepth 100000 in
theorem c143_0_k3 : ptCtF c143_0 c143_0_e (c143_0_pts ++ []) ((hOr (hNew 13 0 1) (atPc 14 (fHarmN 0))), noM, 1569275436769673465620753192209286269458154900427873714176, 24576, 0) 3000 c143_0_p3 = true := by decide +kernel
set_option maxRecDepth 100000 in
theorem c143_0_k4 : ptCtF c143_0 c143_0_e (c143_0_pts ++ []) ((hOr (hNew 13 0 1) (atPc 14 (fHarmN 0))), noM, 1569275436769673465620753192209286269458154900427873714176, 24576, 0) 3000 c143_0_p4 = true := by decide +kernel
set_option maxRecDepth 100000 in
theorem c143_0_k5 : ptCtF c143_0 c143_0_e (c143_0_pts ++ []) ((hOr (hNew 13 0 1) (atPc 14 (fHarmN 0))), noM, 1569275436769673465620753192209286269458154900427873714176, 24576, 0) 3000 c143_0_p5 = true := by decide +kernel
set_option maxRecDepth 100000 in
theorem c143_0_k6 : ptCtF c143_0 c143_0_e (c143_0_pts ++ []) ((hOr (hNew 13 0 1) (atPc 14 (fHarmN 0))), noM, 1569275436769673465620753192209286269458154900427873714176, 24576, 0) 3000 c143_0_p6 = true := by decide +kernel
set_option maxRecDepth 100000 in
theorem c143_0_k7 : ptCtF c143_0 c143_0_e (c143_0_pts ++ []) ((hOr (hNew 13 0 1) (atPc 14 (fHarmN 0))), noM, 1569275436769673465620753192209286269458154900427873714176, 24576, 0) 3000 c143_0_p7 = true := by decide +kernel
set_option maxRecDepth 100000 in
theorem c143_0_k8 : ptCtF c143_0 c143_0_e (c143_0_pts ++ []) ((hOr (hNew 13 0 1) (atPc 14 (fHarmN 0))), noM, 1569275436769673465620753192209286269458154900427873714176, 24576, 0) 3000 c143_0_p8 = true := by decide +kernel
set_option maxRecDepth 100000 in
theorem c143_0_k9 : ptCtF c143_0 c143_0_e (c143_0_pts ++ []) ((hOr (hNew 13 0 1) (atPc 14 (fHarmN 0))), noM, 1569275436769673465620753192209286269458154900427873714176, 24576, 0) 3000 c143_0_p9 = true := by decide +kernel
set_option maxRecDepth 100000 in
theorem c143_0_v : ValidC PPk c143_0 := ct_ok fpk ⟨(hOr_ok (hNew_ok 13 0 1) (atPc_ok (fHarmN_ok 0))), noM_ok⟩ (d := 0) (ext := []) (pts := c143_0_pts) (env := c143_0_e) rfl (fun _ h => (by cases h)) ext_nil (fun q h => (by cases h)) (enF c143_0_k) (List.forall_mem_cons.mpr ⟨ptF c143_0_k0, List.forall_mem_cons.mpr ⟨ptF c143_0_k1, List.forall_mem_cons.mpr ⟨ptF c143_0_k2, List.forall_mem_cons.mpr ⟨ptF c143_0_k3, List.forall_mem_cons.mpr ⟨ptF c143_0_k4, List.forall_mem_cons.mpr ⟨ptF c143_0_k5, List.forall_mem_cons.mpr ⟨ptF c143_0_k6, List.forall_mem_cons.mpr ⟨ptF c143_0_k7, List.forall_mem_cons.mpr ⟨ptF c143_0_k8, List.forall_mem_cons.mpr ⟨ptF c143_0_k9, fun _ h => (by cases h)⟩⟩⟩⟩⟩⟩⟩⟩⟩⟩)

noncomputable def c12_0 : Ct := (12, 1, (3, [(0, (.negSucc 2147483647), (.ofNat 2147483647)), (1, (.negSucc 2147483647), (.ofNat 2147483647)), (2, (.negSucc 2147483647), (.ofNat 2147483647))], [], [.inl (false, ((.ofNat 0), [(0, (.ofNat 1))])), .inl (false, ((.ofNat 0), [(1, (.ofNat 1))])), .inl (false, ((.ofNat 0), [(2, (.ofNat 1))]))], [], []),
  [((3, [(0, (.negSucc 2147483647), (.ofNat 2147483646)), (1, (.negSucc 2147483646), (.ofNat 2147483647))], [((.ofNat 1), [(0, (.ofNat 1)), (1, (.negSucc 0))])], [.inl (false, ((.ofNat 0), []))], [], []), 0, 0),
   ((3, [(0, (.negSucc 2147483646), (.ofNat 2147483647)), (2, (.negSucc 2147483647), (.ofNat 2147483646))], [((.ofNat 1), [(0, (.negSucc 0)), (2, (.ofNat 1))]), ((.ofNat 0), [(0, (.negSucc 0)), (1, (.ofNat 1))])], [.inl (false, ((.ofNat 0), []))], [], []), 0, 0),
   ((3, [], [((.ofNat 0), [(0, (.ofNat 1)), (2, (.negSucc 0))]), ((.ofNat 0), [(0, (.negSucc 0)), (1, (.ofNat 1))])], [.inl (false, ((.ofNat 1), []))], [], []), 0, 0)])
noncomputable def c12_0_e : List Ct := []
noncomputable def c12_0_pts : List PE := []
set_option maxRecDepth 100000 in
theorem c12_0_k : enCtF c12_0 c12_0_e (c12_0_pts ++ []) (none) noH 3000 = true := by decide +kernel
set_option maxRecDepth 100000 in
theorem c12_0_v : ValidC PPk c12_0 := ct_ok fpk noH_ok (d := 0) (ext := []) (pts := c12_0_pts) (env := c12_0_e) rfl (fun _ h => (by cases h)) ext_nil (fun q h => (by cases h)) (enF c12_0_k) (fun _ h => (by cases h))

def zc31 : AC := .inl (8, [.inr (.inl (some 1)), .inl (false, ((.ofNat 0), [(0, (.ofNat 1))])), .inl (false, ((.ofNat 0), [(1, (.ofNat 1))])), .inl (false, ((.ofNat 0), [(2, (.ofNat 1))])), .inl (false, ((.ofNat 0), [(3, (.ofNat 1))]))])
def zc32 : AC := .inr (0, .inl [.inr (12, (.negSucc 2147483647), (.ofNat 2147483647))])
noncomputable def c14_0 : Ct := (14, 1, (4, [(0, (.negSucc 2147483647), (.ofNat 2147483647)), (1, (.negSucc 2147483647), (.ofNat 2147483647)), (2, (.negSucc 2147483647), (.ofNat 2147483647)), (3, (.negSucc 2147483647), (.ofNat 2147483647))], [], [.inr (.inl (some 0))], [zc31,
    zc32], []),
  [((4, [], [], [], [zc10,
    zc32], []), 0, 0)])
noncomputable def c14_0_e : List Ct := []
noncomputable def c14_0_p0 : PE := (2, [0, 1], (5, [(0, (.negSucc 2147483647), (.ofNat 2147483647)), (1, (.negSucc 2147483647), (.ofNat 2147483647)), (2, (.negSucc 2147483647), (.ofNat 2147483647)), (3, (.negSucc 2147483647), (.ofNat 2147483647)), (4, (.ofNat 0), (.ofNat 12))], [], [.inr (.inl (some 0)), .inl (false, ((.ofNat 0), [(4, (.ofNat 1))]))], [zc31,
    zc32], []), symsL 4 0, some ((.ofNat 25), [(4, (.negSucc 0))]), 0, 0)
noncomputable def c14_0_pts : List PE := [c14_0_p0]
set_option maxRecDepth 100000 in
theorem c14_0_k : enCtF c14_0 c14_0_e (c14_0_pts ++ []) (none) (noF, noM, 4, 0, 4) 3000 = true := by decide +kernel
set_option maxRecDepth 100000 in
theorem c14_0_k0 : ptCtF c14_0 c14_0_e (c14_0_pts ++ []) (noF, noM, 4, 0, 4) 3000 c14_0_p0 = true := by decide +kernel
set_option maxRecDepth 100000 in
theorem c14_0_v : ValidC PPk c14_0 := ct_ok fpk ⟨noF_ok, noM_ok⟩ (d := 0) (ext := []) (pts := c14_0_pts) (env := c14_0_e) rfl (fun _ h => (by cases h)) ext_nil (fun q h => (by cases h)) (enF c14_0_k) (List.forall_mem_cons.mpr ⟨ptF c14_0_k0, fun _ h => (by cases h)⟩)

def zc33 : AC := .inl (7, [.inr (.inl (some 1)), .inl (false, ((.ofNat 0), [(1, (.ofNat 1))])), .inr (.inl (some 10)), .inr (.inl (some 14)), .inr (.inl (some 15)), .inl (false, ((.ofNat 0), [(2, (.ofNat 1))])), .inl (false, ((.ofNat 0), [(3, (.ofNat 1))])), .inl (false, ((.ofNat 0), [(4, (.ofNat 1))])), .inl (false, ((.ofNat 0), [(5, (.ofNat 1))])), .inl (false, ((.ofNat 0), [(6, (.ofNat 1))])), .inl (false, ((.ofNat 0), [(7, (.ofNat 1))])), .inl (false, ((.ofNat 0), [(8, (.ofNat 1))])), .inl (false, ((.ofNat 0), [(9, (.ofNat 1))])), .inl (false, ((.ofNat 0), [(10, (.ofNat 1))])), .inl (false, ((.ofNat 0), [(11, (.ofNat 1))])), .inl (false, ((.ofNat 0), [(12, (.ofNat 1))])), .inl (false, ((.ofNat 0), [(13, (.ofNat 1))]))])
def zc34 : AC := .inr (5, .inr (.inr [some 2, some 4, some 6, some 8]))
def zc35 : AC := .inl (8, [.inr (.inl (some 3)), .inl (false, ((.ofNat 0), [(14, (.ofNat 1))])), .inl (false, ((.ofNat 0), [(15, (.ofNat 1))])), .inl (false, ((.ofNat 0), [(16, (.ofNat 1))])), .inl (false, ((.ofNat 0), [(17, (.ofNat 1))]))])
def zc36 : AC := .inl (8, [.inr (.inl (some 5)), .inl (false, ((.ofNat 0), [(18, (.ofNat 1))])), .inl (false, ((.ofNat 0), [(19, (.ofNat 1))])), .inl (false, ((.ofNat 0), [(20, (.ofNat 1))])), .inl (false, ((.ofNat 0), [(21, (.ofNat 1))]))])
def zc37 : AC := .inl (9, [.inr (.inl (some 11)), .inr (.inl (some 12)), .inr (.inl (some 13)), .inl (false, ((.ofNat 0), [(30, (.ofNat 1))]))])
def zc38 : AC := .inr (100, .inl [.inl ((.ofNat 0), [(31, (.ofNat 1))])])
def zc39 : AC := .inr (100, .inl [.inl ((.ofNat 0), [(32, (.ofNat 1))])])
def zc40 : AC := .inr (100, .inl [.inl ((.ofNat 0), [(33, (.ofNat 1))])])
def zc41 : AC := .inr (100, .inl [.inl ((.ofNat 0), [(34, (.ofNat 1))])])
def zc42 : AC := .inr (100, .inl [.inl ((.ofNat 0), [(35, (.ofNat 1))])])
def zc43 : AC := .inl (8, [.inr (.inl (some 3)), .inl (false, ((.ofNat 0), [(37, (.ofNat 1))])), .inl (false, ((.ofNat 0), [(38, (.ofNat 1))])), .inl (false, ((.ofNat 0), [(39, (.ofNat 1))])), .inl (false, ((.ofNat 0), [(40, (.ofNat 1))]))])
def zc44 : AC := .inl (8, [.inr (.inl (some 5)), .inl (false, ((.ofNat 0), [(41, (.ofNat 1))])), .inl (false, ((.ofNat 0), [(42, (.ofNat 1))])), .inl (false, ((.ofNat 0), [(43, (.ofNat 1))])), .inl (false, ((.ofNat 0), [(44, (.ofNat 1))]))])
def zc45 : AC := .inl (8, [.inr (.inl (some 7)), .inl (false, ((.ofNat 0), [(45, (.ofNat 1))])), .inl (false, ((.ofNat 0), [(46, (.ofNat 1))])), .inl (false, ((.ofNat 0), [(47, (.ofNat 1))])), .inl (false, ((.ofNat 0), [(48, (.ofNat 1))]))])
def zc46 : AC := .inl (8, [.inr (.inl (some 9)), .inl (false, ((.ofNat 0), [(49, (.ofNat 1))])), .inl (false, ((.ofNat 0), [(50, (.ofNat 1))])), .inl (false, ((.ofNat 0), [(51, (.ofNat 1))])), .inl (false, ((.ofNat 0), [(52, (.ofNat 1))]))])
noncomputable def c13_0 : Ct := (13, 2, (36, [(0, (.ofNat 1), (.ofNat 4)), (1, (.negSucc 2147483647), (.ofNat 2147483647)), (2, (.negSucc 2147483647), (.ofNat 2147483647)), (3, (.negSucc 2147483647), (.ofNat 2147483647)), (4, (.negSucc 2147483647), (.ofNat 2147483647)), (5, (.negSucc 2147483647), (.ofNat 2147483647)), (6, (.negSucc 2147483647), (.ofNat 2147483647)), (7, (.ofNat 0), (.ofNat 3)), (8, (.negSucc 2147483647), (.ofNat 2147483647)), (9, (.negSucc 2147483647), (.ofNat 2147483647)), (10, (.negSucc 2147483647), (.ofNat 2147483647)), (11, (.negSucc 2147483647), (.ofNat 2147483647)), (12, (.ofNat 0), (.ofNat 1)), (13, (.negSucc 2147483647), (.ofNat 2147483647)), (14, (.negSucc 2147483647), (.ofNat 2147483647)), (15, (.negSucc 2147483647), (.ofNat 2147483647)), (16, (.negSucc 2147483647), (.ofNat 2147483647)), (17, (.negSucc 2147483647), (.ofNat 2147483647)), (18, (.negSucc 2147483647), (.ofNat 2147483647)), (19, (.negSucc 2147483647), (.ofNat 2147483647)), (20, (.negSucc 2147483647), (.ofNat 2147483647)), (21, (.negSucc 2147483647), (.ofNat 2147483647)), (22, (.negSucc 2147483647), (.ofNat 2147483647)), (23, (.negSucc 2147483647), (.ofNat 2147483647)), (24, (.negSucc 2147483647), (.ofNat 2147483647)), (25, (.negSucc 2147483647), (.ofNat 2147483647)), (26, (.negSucc 2147483647), (.ofNat 2147483647)), (27, (.negSucc 2147483647), (.ofNat 2147483647)), (28, (.negSucc 2147483647), (.ofNat 2147483647)), (29, (.negSucc 2147483647), (.ofNat 2147483647)), (30, (.negSucc 2147483647), (.ofNat 2147483647))], [], [.inr (.inl (some 0)), .inl (false, ((.ofNat 0), [(0, (.ofNat 1))]))], [zc33,
    zc34,
    zc35,
    zc32,
    zc36,
    zc32,
    .inl (8, [.inr (.inl (some 7)), .inl (false, ((.ofNat 0), [(22, (.ofNat 1))])), .inl (false, ((.ofNat 0), [(23, (.ofNat 1))])), .inl (false, ((.ofNat 0), [(24, (.ofNat 1))])), .inl (false, ((.ofNat 0), [(25, (.ofNat 1))]))]),
    zc32,
    .inl (8, [.inr (.inl (some 9)), .inl (false, ((.ofNat 0), [(26, (.ofNat 1))])), .inl (false, ((.ofNat 0), [(27, (.ofNat 1))])), .inl (false, ((.ofNat 0), [(28, (.ofNat 1))])), .inl (false, ((.ofNat 0), [(29, (.ofNat 1))]))]),
    zc32,
    zc37,
    zc38,
    zc39,
    zc40,
    zc41,
    zc42], []),
  [((53, [(36, (.ofNat 1), (.ofNat 15)), (37, (.negSucc 2147483647), (.ofNat 2147483647)), (38, (.negSucc 2147483647), (.ofNat 2147483647)), (39, (.negSucc 2147483647), (.ofNat 2147483647)), (40, (.negSucc 2147483647), (.ofNat 2147483647)), (41, (.negSucc 2147483647), (.ofNat 2147483647)), (42, (.negSucc 2147483647), (.ofNat 2147483647)), (43, (.negSucc 2147483647), (.ofNat 2147483647)), (44, (.negSucc 2147483647), (.ofNat 2147483647)), (45, (.negSucc 2147483647), (.ofNat 2147483647)), (46, (.negSucc 2147483647), (.ofNat 2147483647)), (47, (.negSucc 2147483647), (.ofNat 2147483647)), (48, (.negSucc 2147483647), (.ofNat 2147483647)), (49, (.negSucc 2147483647), (.ofNat 2147483647)), (50, (.negSucc 2147483647), (.ofNat 2147483647)), (51, (.negSucc 2147483647), (.ofNat 2147483647)), (52, (.negSucc 2147483647), (.ofNat 2147483647))], [], [], [.inl (7, [.inr (.inl (some 1)), .inl (false, ((.ofNat 0), [(36, (.ofNat 1))])), .inr (.inl (some 10)), .inr (.inl (some 14)), .inr (.inl (some 15)), .inl (false, ((.ofNat 0), [(2, (.ofNat 1))])), .inl (false, ((.ofNat 0), [(3, (.ofNat 1))])), .inl (false, ((.ofNat 0), [(4, (.ofNat 1))])), .inl (false, ((.ofNat 0), [(5, (.ofNat 1))])), .inl (false, ((.ofNat 0), [(6, (.ofNat 1))])), .inl (false, ((.ofNat 0), [(7, (.ofNat 1))])), .inl (false, ((.ofNat 0), [(8, (.ofNat 1))])), .inl (false, ((.ofNat 0), [(9, (.ofNat 1))])), .inl (false, ((.ofNat 0), [(10, (.ofNat 1))])), .inl (false, ((.ofNat 0), [(11, (.ofNat 1))])), .inl (false, ((.ofNat 0), [(12, (.ofNat 1))])), .inl (false, ((.ofNat 0), [(13, (.ofNat 1))]))]),
    zc34,
    zc43,
    zc32,
    zc44,
    zc32,
    zc45,
    zc32,
    zc46,
    zc32,
    zc37,
    zc38,
    zc39,
    zc40,
    zc41,
    zc42], []), 0, 0)])
noncomputable def c13_0_e : List Ct := [c14_0]
noncomputable def c13_0_p0 : PE := (2, [0, 1, 2], (53, [(0, (.ofNat 1), (.ofNat 4)), (1, (.negSucc 2147483647), (.ofNat 2147483647)), (2, (.negSucc 2147483647), (.ofNat 2147483647)), (3, (.negSucc 2147483647), (.ofNat 2147483647)), (4, (.negSucc 2147483647), (.ofNat 2147483647)), (5, (.negSucc 2147483647), (.ofNat 2147483647)), (6, (.negSucc 2147483647), (.ofNat 2147483647)), (7, (.ofNat 0), (.ofNat 3)), (8, (.negSucc 2147483647), (.ofNat 2147483647)), (9, (.negSucc 2147483647), (.ofNat 2147483647)), (10, (.negSucc 2147483647), (.ofNat 2147483647)), (11, (.negSucc 2147483647), (.ofNat 2147483647)), (12, (.ofNat 0), (.ofNat 1)), (13, (.negSucc 2147483647), (.ofNat 2147483647)), (14, (.negSucc 2147483647), (.ofNat 2147483647)), (15, (.negSucc 2147483647), (.ofNat 2147483647)), (16, (.negSucc 2147483647), (.ofNat 2147483647)), (17, (.negSucc 2147483647), (.ofNat 2147483647)), (18, (.negSucc 2147483647), (.ofNat 2147483647)), (19, (.negSucc 2147483647), (.ofNat 2147483647)), (20, (.negSucc 2147483647), (.ofNat 2147483647)), (21, (.negSucc 2147483647), (.ofNat 2147483647)), (22, (.negSucc 2147483647), (.ofNat 2147483647)), (23, (.negSucc 2147483647), (.ofNat 2147483647)), (24, (.negSucc 2147483647), (.ofNat 2147483647)), (25, (.negSucc 2147483647), (.ofNat 2147483647)), (26, (.negSucc 2147483647), (.ofNat 2147483647)), (27, (.negSucc 2147483647), (.ofNat 2147483647)), (28, (.negSucc 2147483647), (.ofNat 2147483647)), (29, (.negSucc 2147483647), (.ofNat 2147483647)), (30, (.negSucc 2147483647), (.ofNat 2147483647)), (36, (.ofNat 0), (.ofNat 4)), (37, (.negSucc 2147483647), (.ofNat 2147483647)), (38, (.negSucc 2147483647), (.ofNat 2147483647)), (39, (.negSucc 2147483647), (.ofNat 2147483647)), (40, (.negSucc 2147483647), (.ofNat 2147483647)), (41, (.negSucc 2147483647), (.ofNat 2147483647)), (42, (.negSucc 2147483647), (.ofNat 2147483647)), (43, (.negSucc 2147483647), (.ofNat 2147483647)), (44, (.negSucc 2147483647), (.ofNat 2147483647)), (45, (.negSucc 2147483647), (.ofNat 2147483647)), (46, (.negSucc 2147483647), (.ofNat 2147483647)), (47, (.negSucc 2147483647), (.ofNat 2147483647)), (48, (.negSucc 2147483647), (.ofNat 2147483647)), (49, (.negSucc 2147483647), (.ofNat 2147483647)), (50, (.negSucc 2147483647), (.ofNat 2147483647)), (51, (.negSucc 2147483647), (.ofNat 2147483647)), (52, (.negSucc 2147483647), (.ofNat 2147483647))], [], [.inr (.inl (some 0)), .inl (false, ((.ofNat 0), [(0, (.ofNat 1))])), .inl (false, ((.ofNat 0), [(36, (.ofNat 1))]))], [zc33,
    zc34,
    zc43,
    zc32,
    zc44,
    zc32,
    zc45,
    zc32,
    zc46,
    zc32,
    zc37,
    zc38,
    zc39,
    zc40,
    zc41,
    zc42], []), symsL 36 0, some ((.ofNat 9), [(36, (.negSucc 0))]), 0, 0)
noncomputable def c13_0_pts : List PE := [c13_0_p0]
set_option maxRecDepth 100000 in
theorem c13_0_k : enCtF c13_0 c13_0_e (c13_0_pts ++ []) (none) (noF, noM, 4, 0, 36) 3000 = true := by decide +kernel
set_option maxRecDepth 100000 in
theorem c13_0_k0 : ptCtF c13_0 c13_0_e (c13_0_pts ++ []) (noF, noM, 4, 0, 36) 3000 c13_0_p0 = true := by decide +kernel
set_option maxRecDepth 100000 in
theorem c13_0_v : ValidC PPk c13_0 := ct_ok fpk ⟨noF_ok, noM_ok⟩ (d := 1) (ext := []) (pts := c13_0_pts) (env := c13_0_e) rfl (List.forall_mem_cons.mpr ⟨⟨c14_0_v, Nat.le_of_ble_eq_true rfl⟩, fun _ h => (by cases h)⟩) ext_nil (fun q h => (by cases h)) (enF c13_0_k) (List.forall_mem_cons.mpr ⟨ptF c13_0_k0, fun _ h => (by cases h)⟩)

def zc47 : AC := .inl (1, [.inl (false, ((.ofNat 0), [(1, (.ofNat 1))])), .inr (.inl (some 2)), .inr (.inl (some 13)), .inr (.inl (some 19)), .inr (.inl (some 20)), .inl (false, ((.ofNat 0), [(2, (.ofNat 1))])), .inl (false, ((.ofNat 0), [(3, (.ofNat 1))])), .inr (.inl (some 21)), .inl (false, ((.ofNat 0), [(4, (.ofNat 1))])), .inl (false, ((.ofNat 0), [(5, (.ofNat 1))])), .inr (.inl (some 26)), .inr (.inl (some 27)), .inr (.inl (some 28)), .inr (.inl (some 32)), .inl (false, ((.ofNat 0), [(6, (.ofNat 1))])), .inr (.inl (some 38)), .inr (.inl (some 39)), .inr (.inl (some 40))])
def zc48 : AC := .inl (2, [.inl (false, ((.ofNat 0), [(7, (.ofNat 1))])), .inr (.inl (some 4)), .inr (.inl (some 5)), .inr (.inl (some 6)), .inr (.inl (some 7))])
def zc49 : AC := .inr (100, .inl [.inl ((.ofNat 0), [(8, (.ofNat 1))])])
def zc50 : AC := .inr (100, .inl [.inl ((.ofNat 0), [(9, (.ofNat 1))])])
def zc51 : AC := .inr (100, .inl [.inl ((.ofNat 0), [(10, (.ofNat 1))])])
def zc52 : AC := .inr (100, .inl [.inl ((.ofNat 0), [(11, (.ofNat 1))])])
def zc53 : AC := .inl (2, [.inl (false, ((.ofNat 0), [(12, (.ofNat 1))])), .inr (.inl (some 9)), .inr (.inl (some 10)), .inr (.inl (some 11)), .inr (.inl (some 12))])
def zc54 : AC := .inr (100, .inl [.inl ((.ofNat 0), [(13, (.ofNat 1))])])
def zc55 : AC := .inr (100, .inl [.inl ((.ofNat 0), [(14, (.ofNat 1))])])
def zc56 : AC := .inr (100, .inl [.inl ((.ofNat 0), [(15, (.ofNat 1))])])
def zc57 : AC := .inr (100, .inl [.inl ((.ofNat 0), [(16, (.ofNat 1))])])
def zc58 : AC := .inl (3, [.inr (.inl (some 14)), .inr (.inl (some 15)), .inl (false, ((.ofNat 0), [(17, (.ofNat 1))])), .inr (.inl (some 16)), .inr (.inl (some 17)), .inr (.inl (some 18))])
def zc59 : AC := .inr (100, .inl [.inl ((.ofNat 0), [(18, (.ofNat 1))])])
def zc60 : AC := .inr (100, .inl [.inl ((.ofNat 0), [(19, (.ofNat 1))])])
def zc61 : AC := .inr (100, .inl [.inl ((.ofNat 0), [(20, (.ofNat 1))])])
def zc62 : AC := .inr (100, .inl [.inl ((.ofNat 0), [(21, (.ofNat 1))])])
def zc63 : AC := .inr (100, .inl [.inl ((.ofNat 0), [(22, (.ofNat 1))])])
def zc64 : AC := .inr (100, .inl [.inl ((.ofNat 0), [(23, (.ofNat 1))])])
def zc65 : AC := .inr (100, .inl [.inl ((.ofNat 0), [(24, (.ofNat 1))])])
def zc66 : AC := .inl (4, [.inl (false, ((.ofNat 0), [(25, (.ofNat 1))])), .inr (.inl (some 22)), .inr (.inl (some 23)), .inr (.inl (some 24)), .inr (.inl (some 25))])
def zc67 : AC := .inr (100, .inl [.inl ((.ofNat 0), [(26, (.ofNat 1))])])
def zc68 : AC := .inr (100, .inl [.inl ((.ofNat 0), [(27, (.ofNat 1))])])
def zc69 : AC := .inr (100, .inl [.inl ((.ofNat 0), [(28, (.ofNat 1))])])
def zc70 : AC := .inr (100, .inl [.inl ((.ofNat 0), [(29, (.ofNat 1))])])
def zc71 : AC := .inr (100, .inl [.inl ((.ofNat 0), [(30, (.ofNat 1))])])
def zc72 : AC := .inl (5, [.inl (false, ((.ofNat 0), [(32, (.ofNat 1))])), .inr (.inl (some 29)), .inl (false, ((.ofNat 0), [(33, (.ofNat 1))])), .inl (false, ((.ofNat 0), [(34, (.ofNat 1))])), .inl (false, ((.ofNat 0), [(35, (.ofNat 1))])), .inr (.inl (some 30)), .inr (.inl (some 31))])
def zc73 : AC := .inr (102, .inl [.inl ((.ofNat 0), [(36, (.ofNat 1))])])
def zc74 : AC := .inr (100, .inl [.inl ((.ofNat 0), [(37, (.ofNat 1))])])
def zc75 : AC := .inl (6, [.inl (false, ((.ofNat 0), [(38, (.ofNat 1))])), .inr (.inl (some 33)), .inr (.inl (some 34)), .inr (.inl (some 35)), .inr (.inl (some 36)), .inr (.inl (some 37))])
def zc76 : AC := .inr (100, .inl [.inl ((.ofNat 0), [(39, (.ofNat 1))])])
def zc77 : AC := .inr (100, .inl [.inl ((.ofNat 0), [(40, (.ofNat 1))])])
def zc78 : AC := .inr (100, .inl [.inl ((.ofNat 0), [(41, (.ofNat 1))])])
def zc79 : AC := .inr (100, .inl [.inl ((.ofNat 0), [(42, (.ofNat 1))])])
def zc80 : AC := .inr (100, .inl [.inl ((.ofNat 0), [(43, (.ofNat 1))])])
def zc81 : AC := .inr (100, .inl [.inl ((.ofNat 0), [(44, (.ofNat 1))])])
def zc82 : AC := .inr (100, .inl [.inl ((.ofNat 0), [(45, (.ofNat 1))])])
def zc83 : AC := .inr (100, .inl [.inl ((.ofNat 0), [(46, (.ofNat 1))])])
def zc84 : AC := .inl (7, [.inr (.inl (some 42)), .inl (false, ((.ofNat 0), [(47, (.ofNat 1))])), .inr (.inl (some 51)), .inr (.inl (some 55)), .inr (.inl (some 56)), .inl (false, ((.ofNat 0), [(48, (.ofNat 1))])), .inl (false, ((.ofNat 0), [(49, (.ofNat 1))])), .inl (false, ((.ofNat 0), [(50, (.ofNat 1))])), .inl (false, ((.ofNat 0), [(51, (.ofNat 1))])), .inl (false, ((.ofNat 0), [(52, (.ofNat 1))])), .inl (false, ((.ofNat 0), [(53, (.ofNat 1))])), .inl (false, ((.ofNat 0), [(54, (.ofNat 1))])), .inl (false, ((.ofNat 0), [(55, (.ofNat 1))])), .inl (false, ((.ofNat 0), [(56, (.ofNat 1))])), .inl (false, ((.ofNat 0), [(57, (.ofNat 1))])), .inl (false, ((.ofNat 0), [(58, (.ofNat 1))])), .inl (false, ((.ofNat 0), [(59, (.ofNat 1))]))])
def zc85 : AC := .inr (5, .inr (.inr [some 43, some 45, some 47, some 49]))
def zc86 : AC := .inl (8, [.inr (.inl (some 44)), .inl (false, ((.ofNat 0), [(60, (.ofNat 1))])), .inl (false, ((.ofNat 0), [(61, (.ofNat 1))])), .inl (false, ((.ofNat 0), [(62, (.ofNat 1))])), .inl (false, ((.ofNat 0), [(63, (.ofNat 1))]))])
def zc87 : AC := .inl (8, [.inr (.inl (some 46)), .inl (false, ((.ofNat 0), [(64, (.ofNat 1))])), .inl (false, ((.ofNat 0), [(65, (.ofNat 1))])), .inl (false, ((.ofNat 0), [(66, (.ofNat 1))])), .inl (false, ((.ofNat 0), [(67, (.ofNat 1))]))])
def zc88 : AC := .inl (8, [.inr (.inl (some 48)), .inl (false, ((.ofNat 0), [(68, (.ofNat 1))])), .inl (false, ((.ofNat 0), [(69, (.ofNat 1))])), .inl (false, ((.ofNat 0), [(70, (.ofNat 1))])), .inl (false, ((.ofNat 0), [(71, (.ofNat 1))]))])
def zc89 : AC := .inl (8, [.inr (.inl (some 50)), .inl (false, ((.ofNat 0), [(72, (.ofNat 1))])), .inl (false, ((.ofNat 0), [(73, (.ofNat 1))])), .inl (false, ((.ofNat 0), [(74, (.ofNat 1))])), .inl (false, ((.ofNat 0), [(75, (.ofNat 1))]))])
def zc90 : AC := .inl (9, [.inr (.inl (some 52)), .inr (.inl (some 53)), .inr (.inl (some 54)), .inl (false, ((.ofNat 0), [(76, (.ofNat 1))]))])
def zc91 : AC := .inr (100, .inl [.inl ((.ofNat 0), [(77, (.ofNat 1))])])
def zc92 : AC := .inr (100, .inl [.inl ((.ofNat 0), [(78, (.ofNat 1))])])
def zc93 : AC := .inr (100, .inl [.inl ((.ofNat 0), [(79, (.ofNat 1))])])
def zc94 : AC := .inr (100, .inl [.inl ((.ofNat 0), [(80, (.ofNat 1))])])
def zc95 : AC := .inr (100, .inl [.inl ((.ofNat 0), [(81, (.ofNat 1))])])
noncomputable def c11_0 : Ct := (11, 3, (82, [(0, (.negSucc 2147483647), (.ofNat 2147483647)), (1, (.ofNat 1), (.ofNat 4)), (2, (.negSucc 2147483647), (.ofNat 2147483647)), (3, (.negSucc 2147483647), (.ofNat 2147483647)), (4, (.ofNat 1), (.ofNat 1000)), (5, (.ofNat 0), (.ofNat 50)), (6, (.ofNat 0), (.ofNat 10)), (7, (.ofNat 0), (.ofNat 60)), (12, (.ofNat 0), (.ofNat 60)), (17, (.ofNat 0), (.ofNat 8)), (25, (.ofNat 0), (.ofNat 6)), (32, (.ofNat 0), (.ofNat 60)), (33, (.negSucc 2147483647), (.ofNat 2147483647)), (34, (.ofNat 0), (.ofNat 60)), (35, (.ofNat 0), (.ofNat 60)), (38, (.ofNat 0), (.ofNat 8)), (47, (.negSucc 2147483647), (.ofNat 2147483647)), (48, (.negSucc 2147483647), (.ofNat 2147483647)), (49, (.negSucc 2147483647), (.ofNat 2147483647)), (50, (.negSucc 2147483647), (.ofNat 2147483647)), (51, (.negSucc 2147483647), (.ofNat 2147483647)), (52, (.negSucc 2147483647), (.ofNat 2147483647)), (53, (.ofNat 0), (.ofNat 3)), (54, (.negSucc 2147483647), (.ofNat 2147483647)), (55, (.negSucc 2147483647), (.ofNat 2147483647)), (56, (.negSucc 2147483647), (.ofNat 2147483647)), (57, (.negSucc 2147483647), (.ofNat 2147483647)), (58, (.ofNat 0), (.ofNat 1)), (59, (.negSucc 2147483647), (.ofNat 2147483647)), (60, (.negSucc 2147483647), (.ofNat 2147483647)), (61, (.negSucc 2147483647), (.ofNat 2147483647)), (62, (.negSucc 2147483647), (.ofNat 2147483647)), (63, (.negSucc 2147483647), (.ofNat 2147483647)), (64, (.negSucc 2147483647), (.ofNat 2147483647)), (65, (.negSucc 2147483647), (.ofNat 2147483647)), (66, (.negSucc 2147483647), (.ofNat 2147483647)), (67, (.negSucc 2147483647), (.ofNat 2147483647)), (68, (.negSucc 2147483647), (.ofNat 2147483647)), (69, (.negSucc 2147483647), (.ofNat 2147483647)), (70, (.negSucc 2147483647), (.ofNat 2147483647)), (71, (.negSucc 2147483647), (.ofNat 2147483647)), (72, (.negSucc 2147483647), (.ofNat 2147483647)), (73, (.negSucc 2147483647), (.ofNat 2147483647)), (74, (.negSucc 2147483647), (.ofNat 2147483647)), (75, (.negSucc 2147483647), (.ofNat 2147483647)), (76, (.negSucc 2147483647), (.ofNat 2147483647))], [], [.inr (.inl (some 0)), .inl (false, ((.ofNat 0), [(0, (.ofNat 1))]))], [zc21,
    zc47,
    .inr (4, .inr (.inr [some 3, some 8])),
    zc48,
    zc49,
    zc50,
    zc51,
    zc52,
    zc53,
    zc54,
    zc55,
    zc56,
    zc57,
    zc58,
    zc59,
    zc60,
    zc61,
    zc62,
    zc63,
    zc64,
    zc65,
    zc66,
    zc67,
    zc68,
    zc69,
    zc70,
    zc71,
    zc38,
    zc72,
    zc73,
    zc74,
    .inr (1, .inr (.inl 60)),
    zc75,
    zc76,
    zc77,
    zc78,
    zc79,
    zc80,
    zc81,
    zc82,
    zc83,
    zc84,
    zc85,
    zc86,
    zc32,
    zc87,
    zc32,
    zc88,
    zc32,
    zc89,
    zc32,
    zc90,
    zc91,
    zc92,
    zc93,
    zc94,
    zc95,
    zc22,
    .inr (1, .inr (.inl 6)),
    .inr (1, .inr (.inl 4)),
    .inr (6, .inr (.inr [none, none])),
    .inr (7, .inr (.inr [none, none]))], [(0, [4, 5, 6, 7], []), (0, [9, 10, 11, 12], [])]),
  [((101, [(82, (.negSucc 2), (.ofNat 1)), (83, (.ofNat 1), (.ofNat 4)), (84, (.negSucc 2147483647), (.ofNat 2147483647)), (85, (.negSucc 2147483647), (.ofNat 2147483647)), (86, (.negSucc 2147483647), (.ofNat 2147483647)), (87, (.negSucc 2147483647), (.ofNat 2147483647)), (88, (.negSucc 2147483647), (.ofNat 2147483647)), (89, (.negSucc 2147483647), (.ofNat 2147483647)), (90, (.negSucc 2147483647), (.ofNat 2147483647)), (91, (.negSucc 2147483647), (.ofNat 2147483647)), (92, (.negSucc 2147483647), (.ofNat 2147483647)), (93, (.negSucc 2147483647), (.ofNat 2147483647)), (94, (.negSucc 2147483647), (.ofNat 2147483647)), (95, (.negSucc 2147483647), (.ofNat 2147483647)), (96, (.negSucc 2147483647), (.ofNat 2147483647)), (97, (.negSucc 2147483647), (.ofNat 2147483647)), (98, (.negSucc 2147483647), (.ofNat 2147483647)), (99, (.negSucc 2147483647), (.ofNat 2147483647)), (100, (.negSucc 2147483647), (.ofNat 2147483647))], [], [.inl (false, ((.ofNat 0), [(82, (.ofNat 1))]))], [zc21,
    .inl (1, [.inl (false, ((.ofNat 0), [(83, (.ofNat 1))])), .inr (.inl (some 2)), .inr (.inl (some 13)), .inr (.inl (some 19)), .inr (.inl (some 20)), .inl (false, ((.ofNat 0), [(2, (.ofNat 1))])), .inl (false, ((.ofNat 0), [(3, (.ofNat 1))])), .inr (.inl (some 21)), .inl (false, ((.ofNat 0), [(4, (.ofNat 1))])), .inl (false, ((.ofNat 0), [(5, (.ofNat 1))])), .inr (.inl (some 26)), .inr (.inl (some 27)), .inr (.inl (some 28)), .inr (.inl (some 32)), .inl (false, ((.ofNat 0), [(6, (.ofNat 1))])), .inr (.inl (some 38)), .inr (.inl (some 39)), .inr (.inl (some 40))]),
    .inr (4, .inr (.inr [some 3, some 8])),
    zc48,
    zc49,
    zc50,
    zc51,
    zc52,
    zc53,
    zc54,
    zc55,
    zc56,
    zc57,
    zc58,
    zc59,
    zc60,
    zc61,
    zc62,
    zc63,
    zc64,
    zc65,
    zc66,
    zc67,
    zc68,
    zc69,
    zc70,
    zc71,
    zc38,
    zc72,
    zc73,
    zc74,
    .inr (1, .inr (.inl 60)),
    zc75,
    zc76,
    zc77,
    zc78,
    zc79,
    zc80,
    zc81,
    zc82,
    zc83,
    .inl (7, [.inr (.inl (some 42)), .inl (false, ((.ofNat 0), [(84, (.ofNat 1))])), .inr (.inl (some 51)), .inr (.inl (some 55)), .inr (.inl (some 56)), .inl (false, ((.ofNat 0), [(48, (.ofNat 1))])), .inl (false, ((.ofNat 0), [(49, (.ofNat 1))])), .inl (false, ((.ofNat 0), [(50, (.ofNat 1))])), .inl (false, ((.ofNat 0), [(51, (.ofNat 1))])), .inl (false, ((.ofNat 0), [(52, (.ofNat 1))])), .inl (false, ((.ofNat 0), [(53, (.ofNat 1))])), .inl (false, ((.ofNat 0), [(54, (.ofNat 1))])), .inl (false, ((.ofNat 0), [(55, (.ofNat 1))])), .inl (false, ((.ofNat 0), [(56, (.ofNat 1))])), .inl (false, ((.ofNat 0), [(57, (.ofNat 1))])), .inl (false, ((.ofNat 0), [(58, (.ofNat 1))])), .inl (false, ((.ofNat 0), [(59, (.ofNat 1))]))]),
    zc85,
    .inl (8, [.inr (.inl (some 44)), .inl (false, ((.ofNat 0), [(85, (.ofNat 1))])), .inl (false, ((.ofNat 0), [(86, (.ofNat 1))])), .inl (false, ((.ofNat 0), [(87, (.ofNat 1))])), .inl (false, ((.ofNat 0), [(88, (.ofNat 1))]))]),
    zc32,
    .inl (8, [.inr (.inl (some 46)), .inl (false, ((.ofNat 0), [(89, (.ofNat 1))])), .inl (false, ((.ofNat 0), [(90, (.ofNat 1))])), .inl (false, ((.ofNat 0), [(91, (.ofNat 1))])), .inl (false, ((.ofNat 0), [(92, (.ofNat 1))]))]),
    zc32,
    .inl (8, [.inr (.inl (some 48)), .inl (false, ((.ofNat 0), [(93, (.ofNat 1))])), .inl (false, ((.ofNat 0), [(94, (.ofNat 1))])), .inl (false, ((.ofNat 0), [(95, (.ofNat 1))])), .inl (false, ((.ofNat 0), [(96, (.ofNat 1))]))]),
    zc32,
    .inl (8, [.inr (.inl (some 50)), .inl (false, ((.ofNat 0), [(97, (.ofNat 1))])), .inl (false, ((.ofNat 0), [(98, (.ofNat 1))])), .inl (false, ((.ofNat 0), [(99, (.ofNat 1))])), .inl (false, ((.ofNat 0), [(100, (.ofNat 1))]))]),
    zc32,
    zc90,
    zc91,
    zc92,
    zc93,
    zc94,
    zc95,
    zc22,
    .inr (1, .inr (.inl 6)),
    .inr (1, .inr (.inl 4)),
    .inr (6, .inr (.inr [none, none])),
    .inr (7, .inr (.inr [none, none]))], [(0, [4, 5, 6, 7], []), (0, [9, 10, 11, 12], [])]), 0, 0)])
noncomputable def c11_0_e : List Ct := [c12_0, c13_0]
noncomputable def c11_0_pts : List PE := []
set_option maxRecDepth 100000 in
theorem c11_0_k : enCtF c11_0 c11_0_e (c11_0_pts ++ []) (none) noH 3000 = true := by decide +kernel
set_option maxRecDepth 100000 in
theorem c11_0_v : ValidC PPk c11_0 := ct_ok fpk noH_ok (d := 2) (ext := []) (pts := c11_0_pts) (env := c11_0_e) rfl (List.forall_mem_cons.mpr ⟨⟨c12_0_v, Nat.le_of_ble_eq_true rfl⟩, List.forall_mem_cons.mpr ⟨⟨c13_0_v, Nat.le_of_ble_eq_true rfl⟩, fun _ h => (by cases h)⟩⟩) ext_nil (fun q h => (by cases h)) (enF c11_0_k) (fun _ h => (by cases h))

noncomputable def c145_0 : Ct := (145, 1, (3, [(0, (.negSucc 2147483647), (.ofNat 2147483647)), (1, (.negSucc 2147483647), (.ofNat 2147483647)), (2, (.negSucc 2147483647), (.ofNat 2147483647))], [], [.inl (false, ((.ofNat 0), [(0, (.ofNat 1))])), .inl (false, ((.ofNat 0), [(1, (.ofNat 1))])), .inl (false, ((.ofNat 0), [(2, (.ofNat 1))]))], [], []),
  [((3, [(0, (.negSucc 2147483647), (.ofNat 2147483646)), (1, (.negSucc 2147483646), (.ofNat 2147483647))], [((.ofNat 1), [(0, (.ofNat 1)), (1, (.negSucc 0))])], [.inl (false, ((.ofNat 0), []))], [], []), 0, 0),
   ((3, [(0, (.negSucc 2147483646), (.ofNat 2147483647)), (2, (.negSucc 2147483647), (.ofNat 2147483646))], [((.ofNat 1), [(0, (.negSucc 0)), (2, (.ofNat 1))]), ((.ofNat 0), [(0, (.negSucc 0)), (1, (.ofNat 1))])], [.inl (false, ((.ofNat 0), []))], [], []), 0, 0),
   ((3, [], [((.ofNat 0), [(0, (.ofNat 1)), (2, (.negSucc 0))]), ((.ofNat 0), [(0, (.negSucc 0)), (1, (.ofNat 1))])], [.inl (false, ((.ofNat 1), []))], [], []), 0, 0)])
noncomputable def c145_0_e : List Ct := []
noncomputable def c145_0_pts : List PE := []
set_option maxRecDepth 100000 in
theorem c145_0_k : enCtF c145_0 c145_0_e (c145_0_pts ++ []) (none) noH 3000 = true := by decide +kernel
set_option maxRecDepth 100000 in
theorem c145_0_v : ValidC PPk c145_0 := ct_ok fpk noH_ok (d := 0) (ext := []) (pts := c145_0_pts) (env := c145_0_e) rfl (fun _ h => (by cases h)) ext_nil (fun q h => (by cases h)) (enF c145_0_k) (fun _ h => (by cases h))
