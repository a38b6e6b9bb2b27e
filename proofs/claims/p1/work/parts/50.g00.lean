/-! ===== contracts, written by wip/vse2/emitgen.py ===== -/
def zc0 : AC := .inr (0, .inl [.inr (6, (.ofNat 0), (.ofNat 0))])
def zc1 : AC := .inr (0, .inl [.inr (8, (.ofNat 0), (.ofNat 0))])
noncomputable def c2_0 : Ct := (2, 1, (0, [], [], [.inr (.inl (some 0))], [.inl (3, [.inr (.inl none), .inr (.inl none), .inl (false, ((.ofNat 0), [])), .inr (.inl none), .inr (.inl none), .inr (.inl none)])], []),
  [((0, [], [], [], [.inl (3, [.inr (.inl (some 1)), .inr (.inl (some 2)), .inl (false, ((.ofNat 0), [])), .inr (.inl (some 3)), .inr (.inl (some 4)), .inr (.inl (some 5))]),
    zc0,
    zc0,
    zc1,
    zc1,
    zc1], []), 5, 36)])
noncomputable def c2_0_e : List Ct := []
noncomputable def c2_0_pts : List PE := []
set_option maxRecDepth 100000 in
theorem c2_0_k : enCtF c2_0 c2_0_e (c2_0_pts ++ []) (none) noH 4000 = true := by decide +kernel
set_option maxRecDepth 100000 in
theorem c2_0_v : ValidC PPk c2_0 := ct_ok fpk noH_ok (d := 0) (ext := []) (pts := c2_0_pts) (env := c2_0_e) rfl (fun _ h => (by cases h)) ext_nil (fun q h => (by cases h)) (enF c2_0_k) (fun _ h => (by cases h))

noncomputable def c3_0 : Ct := (3, 1, (0, [], [], [.inr (.inl (some 0))], [.inl (4, [.inl (false, ((.ofNat 0), [])), .inr (.inl none), .inr (.inl none), .inr (.inl none), .inr (.inl none)])], []),
  [((0, [], [], [], [.inl (4, [.inl (false, ((.ofNat 0), [])), .inr (.inl (some 1)), .inr (.inl (some 2)), .inr (.inl (some 3)), .inr (.inl (some 4))]),
    zc0,
    zc0,
    zc0,
    zc0], []), 4, 24)])
noncomputable def c3_0_e : List Ct := []
noncomputable def c3_0_pts : List PE := []
set_option maxRecDepth 100000 in
theorem c3_0_k : enCtF c3_0 c3_0_e (c3_0_pts ++ []) (none) noH 4000 = true := by decide +kernel
set_option maxRecDepth 100000 in
theorem c3_0_v : ValidC PPk c3_0 := ct_ok fpk noH_ok (d := 0) (ext := []) (pts := c3_0_pts) (env := c3_0_e) rfl (fun _ h => (by cases h)) ext_nil (fun q h => (by cases h)) (enF c3_0_k) (fun _ h => (by cases h))

def zc2 : AC := .inr (2, .inl [.inr (60, (.ofNat 0), (.ofNat 0))])
def zc3 : AC := .inr (0, .inl [.inr (60, (.ofNat 0), (.ofNat 0))])
noncomputable def c4_0 : Ct := (4, 1, (0, [], [], [.inr (.inl (some 0))], [.inl (5, [.inl (false, ((.ofNat 0), [])), .inr (.inl none), .inl (false, ((.ofNat 0), [])), .inl (false, ((.ofNat 0), [])), .inl (false, ((.ofNat 0), [])), .inr (.inl none), .inr (.inl none)])], []),
  [((0, [], [], [], [.inl (5, [.inl (false, ((.ofNat 0), [])), .inr (.inl (some 1)), .inl (false, ((.ofNat 1), [])), .inl (false, ((.ofNat 0), [])), .inl (false, ((.ofNat 0), [])), .inr (.inl (some 2)), .inr (.inl (some 3))]),
    zc2,
    zc3,
    .inr (1, .inr (.inl 1000000060))], []), 3, 180)])
noncomputable def c4_0_e : List Ct := []
noncomputable def c4_0_pts : List PE := []
set_option maxRecDepth 100000 in
theorem c4_0_k : enCtF c4_0 c4_0_e (c4_0_pts ++ []) (none) noH 4000 = true := by decide +kernel
set_option maxRecDepth 100000 in
theorem c4_0_v : ValidC PPk c4_0 := ct_ok fpk noH_ok (d := 0) (ext := []) (pts := c4_0_pts) (env := c4_0_e) rfl (fun _ h => (by cases h)) ext_nil (fun q h => (by cases h)) (enF c4_0_k) (fun _ h => (by cases h))

noncomputable def c5_0 : Ct := (5, 1, (0, [], [], [.inr (.inl (some 0))], [.inl (6, [.inl (false, ((.ofNat 0), [])), .inr (.inl none), .inr (.inl none), .inr (.inl none), .inr (.inl none), .inr (.inl none)])], []),
  [((0, [], [], [], [.inl (6, [.inl (false, ((.ofNat 0), [])), .inr (.inl (some 1)), .inr (.inl (some 2)), .inr (.inl (some 3)), .inr (.inl (some 4)), .inr (.inl (some 5))]),
    zc1,
    zc1,
    zc1,
    zc1,
    zc1], []), 5, 40)])
noncomputable def c5_0_e : List Ct := []
noncomputable def c5_0_pts : List PE := []
set_option maxRecDepth 100000 in
theorem c5_0_k : enCtF c5_0 c5_0_e (c5_0_pts ++ []) (none) noH 4000 = true := by decide +kernel
set_option maxRecDepth 100000 in
theorem c5_0_v : ValidC PPk c5_0 := ct_ok fpk noH_ok (d := 0) (ext := []) (pts := c5_0_pts) (env := c5_0_e) rfl (fun _ h => (by cases h)) ext_nil (fun q h => (by cases h)) (enF c5_0_k) (fun _ h => (by cases h))

noncomputable def c6_0 : Ct := (6, 1, (0, [], [], [.inr (.inl (some 0))], [.inl (2, [.inl (false, ((.ofNat 0), [])), .inr (.inl none), .inr (.inl none), .inr (.inl none), .inr (.inl none)])], []),
  [((0, [], [], [], [.inl (2, [.inl (false, ((.ofNat 0), [])), .inr (.inl (some 1)), .inr (.inl (some 2)), .inr (.inl (some 3)), .inr (.inl (some 4))]),
    zc3,
    zc3,
    zc3,
    zc3], [(0, [1, 2, 3, 4], [])]), 4, 240)])
noncomputable def c6_0_e : List Ct := []
noncomputable def c6_0_pts : List PE := []
set_option maxRecDepth 100000 in
theorem c6_0_k : enCtF c6_0 c6_0_e (c6_0_pts ++ []) (none) ((hNew 36 1 0), noM, 0, 68719476736, 0) 3000 = true := by decide +kernel
set_option maxRecDepth 100000 in
theorem c6_0_v : ValidC PPk c6_0 := ct_ok fpk ⟨(hNew_ok 36 1 0), noM_ok⟩ (d := 0) (ext := []) (pts := c6_0_pts) (env := c6_0_e) rfl (fun _ h => (by cases h)) ext_nil (fun q h => (by cases h)) (enF c6_0_k) (fun _ h => (by cases h))

def zc4 : AC := .inr (0, .inl [.inr (0, (.ofNat 0), (.ofNat 0)), .inl ((.negSucc 99), []), .inr (0, (.ofNat 0), (.ofNat 0)), .inl ((.negSucc 99), []), .inr (0, (.ofNat 0), (.ofNat 0)), .inl ((.negSucc 99), []), .inr (0, (.ofNat 0), (.ofNat 0)), .inl ((.negSucc 99), []), .inr (0, (.ofNat 0), (.ofNat 0))])
def zc5 : AC := .inr (0, .inl [.inr (0, (.ofNat 0), (.ofNat 0)), .inl ((.ofNat 100), []), .inr (0, (.ofNat 0), (.ofNat 0)), .inl ((.ofNat 100), []), .inr (0, (.ofNat 0), (.ofNat 0)), .inl ((.ofNat 100), []), .inr (0, (.ofNat 0), (.ofNat 0)), .inl ((.ofNat 100), []), .inr (0, (.ofNat 0), (.ofNat 0))])
def zc6 : AC := .inr (0, .inl [.inr (10, (.ofNat 0), (.ofNat 0))])
def zc7 : AC := .inr (0, .inl [.inr (4, (.ofNat 0), (.ofNat 0))])
noncomputable def c1_0 : Ct := (1, 2, (0, [], [], [.inr (.inl (some 0))], [.inl (1, [.inl (false, ((.ofNat 0), [])), .inr (.inl none), .inr (.inl none), .inr (.inl none), .inr (.inl none), .inl (false, ((.ofNat 0), [])), .inl (false, ((.ofNat 0), [])), .inr (.inl none), .inl (false, ((.ofNat 0), [])), .inl (false, ((.ofNat 0), [])), .inr (.inl none), .inr (.inl none), .inr (.inl none), .inr (.inl none), .inl (false, ((.ofNat 0), [])), .inr (.inl none), .inr (.inl none), .inr (.inl none)])], []),
  [((0, [], [], [], [.inl (1, [.inl (false, ((.ofNat 3), [])), .inr (.inl (some 1)), .inr (.inl (some 2)), .inr (.inl (some 8)), .inr (.inl (some 9)), .inl (false, ((.ofNat 3), [])), .inl (false, ((.ofNat 5), [])), .inr (.inl (some 10)), .inl (false, ((.ofNat 100), [])), .inl (false, ((.ofNat 0), [])), .inr (.inl (some 15)), .inr (.inl (some 16)), .inr (.inl (some 17)), .inr (.inl (some 21)), .inl (false, ((.ofNat 0), [])), .inr (.inl (some 27)), .inr (.inl (some 28)), .inr (.inl (some 29))]),
    .inr (4, .inr (.inr [some 30, some 35])),
    .inl (3, [.inr (.inl (some 3)), .inr (.inl (some 4)), .inl (false, ((.ofNat 0), [])), .inr (.inl (some 5)), .inr (.inl (some 6)), .inr (.inl (some 7))]),
    zc0,
    zc0,
    zc1,
    zc1,
    zc1,
    zc1,
    zc1,
    .inl (4, [.inl (false, ((.ofNat 0), [])), .inr (.inl (some 11)), .inr (.inl (some 12)), .inr (.inl (some 13)), .inr (.inl (some 14))]),
    zc0,
    zc0,
    zc0,
    zc0,
    zc4,
    zc5,
    .inl (5, [.inl (false, ((.ofNat 0), [])), .inr (.inl (some 18)), .inl (false, ((.ofNat 1), [])), .inl (false, ((.ofNat 0), [])), .inl (false, ((.ofNat 0), [])), .inr (.inl (some 19)), .inr (.inl (some 20))]),
    zc2,
    zc3,
    .inr (1, .inr (.inl 1000000060)),
    .inl (6, [.inl (false, ((.ofNat 0), [])), .inr (.inl (some 22)), .inr (.inl (some 23)), .inr (.inl (some 24)), .inr (.inl (some 25)), .inr (.inl (some 26))]),
    zc1,
    zc1,
    zc1,
    zc1,
    zc1,
    zc6,
    zc7,
    zc7,
    .inl (2, [.inl (false, ((.ofNat 0), [])), .inr (.inl (some 31)), .inr (.inl (some 32)), .inr (.inl (some 33)), .inr (.inl (some 34))]),
    zc3,
    zc3,
    zc3,
    zc3,
    .inl (2, [.inl (false, ((.ofNat 0), [])), .inr (.inl (some 36)), .inr (.inl (some 37)), .inr (.inl (some 38)), .inr (.inl (some 39))]),
    zc3,
    zc3,
    zc3,
    zc3], [(0, [31, 32, 33, 34], []), (0, [36, 37, 38, 39], [])]), 39, 838)])
noncomputable def c1_0_e : List Ct := [c2_0, c3_0, c4_0, c5_0, c6_0]
noncomputable def c1_0_pts : List PE := []
set_option maxRecDepth 100000 in
theorem c1_0_k : enCtF c1_0 c1_0_e (c1_0_pts ++ []) (none) noH 4000 = true := by decide +kernel
set_option maxRecDepth 100000 in
theorem c1_0_v : ValidC PPk c1_0 := ct_ok fpk noH_ok (d := 1) (ext := []) (pts := c1_0_pts) (env := c1_0_e) rfl (List.forall_mem_cons.mpr ⟨⟨c2_0_v, Nat.le_of_ble_eq_true rfl⟩, List.forall_mem_cons.mpr ⟨⟨c3_0_v, Nat.le_of_ble_eq_true rfl⟩, List.forall_mem_cons.mpr ⟨⟨c4_0_v, Nat.le_of_ble_eq_true rfl⟩, List.forall_mem_cons.mpr ⟨⟨c5_0_v, Nat.le_of_ble_eq_true rfl⟩, List.forall_mem_cons.mpr ⟨⟨c6_0_v, Nat.le_of_ble_eq_true rfl⟩, fun _ h => (by cases h)⟩⟩⟩⟩⟩) ext_nil (fun q h => (by cases h)) (enF c1_0_k) (fun _ h => (by cases h))

def zc8 : AC := .inl (9, [.inr (.inl (some 1)), .inr (.inl (some 2)), .inr (.inl (some 3)), .inl (false, ((.ofNat 0), []))])
def zc9 : AC := .inr (0, .inl [.inr (32, (.ofNat 0), (.ofNat 0))])
noncomputable def c8_0 : Ct := (8, 1, (0, [], [], [.inr (.inl (some 0))], [.inl (9, [.inr (.inl none), .inr (.inl none), .inr (.inl none), .inl (false, ((.ofNat 0), []))])], []),
  [((0, [], [], [], [zc8,
    zc9,
    zc1,
    zc1], []), 3, 48)])
noncomputable def c8_0_e : List Ct := []
noncomputable def c8_0_pts : List PE := []
set_option maxRecDepth 100000 in
theorem c8_0_k : enCtF c8_0 c8_0_e (c8_0_pts ++ []) (none) noH 4000 = true := by decide +kernel
set_option maxRecDepth 100000 in
theorem c8_0_v : ValidC PPk c8_0 := ct_ok fpk noH_ok (d := 0) (ext := []) (pts := c8_0_pts) (env := c8_0_e) rfl (fun _ h => (by cases h)) ext_nil (fun q h => (by cases h)) (enF c8_0_k) (fun _ h => (by cases h))

def zc10 : AC := .inl (8, [.inr (.inl (some 1)), .inl (false, ((.ofNat 0), [])), .inl (false, ((.ofNat 0), [])), .inl (false, ((.ofNat 0), [])), .inl (false, ((.ofNat 0), []))])
def zc11 : AC := .inr (0, .inl [.inr (12, (.ofNat 0), (.ofNat 0))])
noncomputable def c9_0 : Ct := (9, 1, (0, [], [], [.inr (.inl (some 0))], [.inl (8, [.inr (.inl none), .inl (false, ((.ofNat 0), [])), .inl (false, ((.ofNat 0), [])), .inl (false, ((.ofNat 0), [])), .inl (false, ((.ofNat 0), []))])], []),
  [((0, [], [], [], [zc10,
    zc11], []), 1, 12)])
noncomputable def c9_0_e : List Ct := []
noncomputable def c9_0_pts : List PE := []
set_option maxRecDepth 100000 in
theorem c9_0_k : enCtF c9_0 c9_0_e (c9_0_pts ++ []) (none) noH 4000 = true := by decide +kernel
set_option maxRecDepth 100000 in
theorem c9_0_v : ValidC PPk c9_0 := ct_ok fpk noH_ok (d := 0) (ext := []) (pts := c9_0_pts) (env := c9_0_e) rfl (fun _ h => (by cases h)) ext_nil (fun q h => (by cases h)) (enF c9_0_k) (fun _ h => (by cases h))

def zc12 : AC := .inr (0, .inl [.inr (2, (.ofNat 0), (.ofNat 0))])
noncomputable def c7_0 : Ct := (7, 2, (0, [], [], [.inr (.inl (some 0))], [.inl (7, [.inr (.inl none), .inl (false, ((.ofNat 0), [])), .inr (.inl none), .inr (.inl none), .inr (.inl none), .inl (false, ((.ofNat 0), [])), .inl (false, ((.ofNat 0), [])), .inl (false, ((.ofNat 0), [])), .inl (false, ((.ofNat 0), [])), .inl (false, ((.ofNat 0), [])), .inl (false, ((.ofNat 0), [])), .inl (false, ((.ofNat 0), [])), .inl (false, ((.ofNat 0), [])), .inl (false, ((.ofNat 0), [])), .inl (false, ((.ofNat 0), [])), .inl (false, ((.ofNat 0), [])), .inl (false, ((.ofNat 0), []))])], []),
  [((0, [], [], [], [.inl (7, [.inr (.inl (some 1)), .inl (false, ((.ofNat 7), [])), .inr (.inl (some 2)), .inr (.inl (some 6)), .inr (.inl (some 7)), .inl (false, ((.ofNat 0), [])), .inl (false, ((.ofNat 0), [])), .inl (false, ((.ofNat 0), [])), .inl (false, ((.ofNat 0), [])), .inl (false, ((.ofNat 0), [])), .inl (false, ((.ofNat 0), [])), .inl (false, ((.ofNat 0), [])), .inl (false, ((.ofNat 0), [])), .inl (false, ((.ofNat 0), [])), .inl (false, ((.ofNat 0), [])), .inl (false, ((.ofNat 0), [])), .inl (false, ((.negSucc 0), []))]),
    .inr (5, .inr (.inr [some 8, some 10, some 12, some 14])),
    .inl (9, [.inr (.inl (some 3)), .inr (.inl (some 4)), .inr (.inl (some 5)), .inl (false, ((.ofNat 0), []))]),
    zc9,
    zc1,
    zc1,
    zc12,
    zc0,
    .inl (8, [.inr (.inl (some 9)), .inl (false, ((.ofNat 0), [])), .inl (false, ((.ofNat 0), [])), .inl (false, ((.ofNat 0), [])), .inl (false, ((.ofNat 0), []))]),
    zc11,
    .inl (8, [.inr (.inl (some 11)), .inl (false, ((.ofNat 0), [])), .inl (false, ((.ofNat 0), [])), .inl (false, ((.ofNat 0), [])), .inl (false, ((.ofNat 0), []))]),
    zc11,
    .inl (8, [.inr (.inl (some 13)), .inl (false, ((.ofNat 0), [])), .inl (false, ((.ofNat 0), [])), .inl (false, ((.ofNat 0), [])), .inl (false, ((.ofNat 0), []))]),
    zc11,
    .inl (8, [.inr (.inl (some 15)), .inl (false, ((.ofNat 0), [])), .inl (false, ((.ofNat 0), [])), .inl (false, ((.ofNat 0), [])), .inl (false, ((.ofNat 0), []))]),
    zc11], []), 15, 132)])
noncomputable def c7_0_e : List Ct := [c8_0, c9_0]
noncomputable def c7_0_pts : List PE := []
set_option maxRecDepth 100000 in
theorem c7_0_k : enCtF c7_0 c7_0_e (c7_0_pts ++ []) (none) noH 4000 = true := by decide +kernel
set_option maxRecDepth 100000 in
theorem c7_0_v : ValidC PPk c7_0 := ct_ok fpk noH_ok (d := 1) (ext := []) (pts := c7_0_pts) (env := c7_0_e) rfl (List.forall_mem_cons.mpr ⟨⟨c8_0_v, Nat.le_of_ble_eq_true rfl⟩, List.forall_mem_cons.mpr ⟨⟨c9_0_v, Nat.le_of_ble_eq_true rfl⟩, fun _ h => (by cases h)⟩⟩) ext_nil (fun q h => (by cases h)) (enF c7_0_k) (fun _ h => (by cases h))

def zc13 : AC := .inl (1, [.inl (false, ((.ofNat 3), [])), .inr (.inl (some 2)), .inr (.inl (some 13)), .inr (.inl (some 19)), .inr (.inl (some 20)), .inl (false, ((.ofNat 3), [])), .inl (false, ((.ofNat 5), [])), .inr (.inl (some 21)), .inl (false, ((.ofNat 100), [])), .inl (false, ((.ofNat 0), [])), .inr (.inl (some 26)), .inr (.inl (some 27)), .inr (.inl (some 28)), .inr (.inl (some 32)), .inl (false, ((.ofNat 0), [])), .inr (.inl (some 38)), .inr (.inl (some 39)), .inr (.inl (some 40))])
def zc14 : AC := .inl (2, [.inl (false, ((.ofNat 0), [])), .inr (.inl (some 4)), .inr (.inl (some 5)), .inr (.inl (some 6)), .inr (.inl (some 7))])
def zc15 : AC := .inl (2, [.inl (false, ((.ofNat 0), [])), .inr (.inl (some 9)), .inr (.inl (some 10)), .inr (.inl (some 11)), .inr (.inl (some 12))])
def zc16 : AC := .inl (3, [.inr (.inl (some 14)), .inr (.inl (some 15)), .inl (false, ((.ofNat 0), [])), .inr (.inl (some 16)), .inr (.inl (some 17)), .inr (.inl (some 18))])
def zc17 : AC := .inl (4, [.inl (false, ((.ofNat 0), [])), .inr (.inl (some 22)), .inr (.inl (some 23)), .inr (.inl (some 24)), .inr (.inl (some 25))])
def zc18 : AC := .inl (5, [.inl (false, ((.ofNat 0), [])), .inr (.inl (some 29)), .inl (false, ((.ofNat 1), [])), .inl (false, ((.ofNat 0), [])), .inl (false, ((.ofNat 0), [])), .inr (.inl (some 30)), .inr (.inl (some 31))])
def zc19 : AC := .inl (6, [.inl (false, ((.ofNat 0), [])), .inr (.inl (some 33)), .inr (.inl (some 34)), .inr (.inl (some 35)), .inr (.inl (some 36)), .inr (.inl (some 37))])
def zc20 : AC := .inl (10, [.inr (.inl (some 1)), .inr (.inl (some 41)), .inr (.inl (some 42))])
noncomputable def c10_0 : Ct := (10, 1, (0, [], [], [.inr (.inl (some 0)), .inr (.inl (some 1))], [.inl (10, [.inr (.inl none), .inr (.inl none), .inr (.inl none)]),
    zc13,
    .inr (4, .inr (.inr [some 3, some 8])),
    zc14,
    zc3,
    zc3,
    zc3,
    zc3,
    zc15,
    zc3,
    zc3,
    zc3,
    zc3,
    zc16,
    zc0,
    zc0,
    zc1,
    zc1,
    zc1,
    zc1,
    zc1,
    zc17,
    zc0,
    zc0,
    zc0,
    zc0,
    zc4,
    zc5,
    zc18,
    zc2,
    zc3,
    .inr (1, .inr (.inl 1000000060)),
    zc19,
    zc1,
    zc1,
    zc1,
    zc1,
    zc1,
    zc6,
    zc7,
    zc7], [(0, [4, 5, 6, 7], []), (0, [9, 10, 11, 12], [])]),
  [((0, [], [], [], [zc20,
    zc13,
    .inr (4, .inr (.inr [some 3, some 8])),
    zc14,
    zc3,
    zc3,
    zc3,
    zc3,
    zc15,
    zc3,
    zc3,
    zc3,
    zc3,
    zc16,
    zc0,
    zc0,
    zc1,
    zc1,
    zc1,
    zc1,
    zc1,
    zc17,
    zc0,
    zc0,
    zc0,
    zc0,
    zc4,
    zc5,
    zc18,
    zc2,
    zc3,
    .inr (1, .inr (.inl 1000000060)),
    zc19,
    zc1,
    zc1,
    zc1,
    zc1,
    zc1,
    zc6,
    zc7,
    zc7,
    .inr (1, .inr (.inl 1000000006)),
    .inr (1, .inr (.inl 1000000004))], [(0, [4, 5, 6, 7], []), (0, [9, 10, 11, 12], [])]), 2, 10)])
noncomputable def c10_0_e : List Ct := []
noncomputable def c10_0_pts : List PE := []
set_option maxRecDepth 100000 in
theorem c10_0_k : enCtF c10_0 c10_0_e (c10_0_pts ++ []) (none) noH 4000 = true := by decide +kernel
set_option maxRecDepth 100000 in
theorem c10_0_v : ValidC PPk c10_0 := ct_ok fpk noH_ok (d := 0) (ext := []) (pts := c10_0_pts) (env := c10_0_e) rfl (fun _ h => (by cases h)) ext_nil (fun q h => (by cases h)) (enF c10_0_k) (fun _ h => (by cases h))

def zc21 : AC := .inl (0, [.inr (.inl (some 1)), .inr (.inl (some 41)), .inr (.inl (some 57)), .inr (.inl none), .inr (.inl (some 60)), .inr (.inl (some 61))])
def zc22 : AC := .inl (10, [.inr (.inl (some 1)), .inr (.inl (some 58)), .inr (.inl (some 59))])
noncomputable def c0_0 : Ct := (0, 3, (0, [], [], [.inr (.inl (some 0))], [.inl (0, [.inr (.inl none), .inr (.inl none), .inr (.inl none), .inr (.inl none), .inr (.inl none), .inr (.inl none)])], []),
  [((0, [], [], [], [zc21,
    .inl (1, [.inl (false, ((.ofNat 3), [])), .inr (.inl (some 2)), .inr (.inl (some 3)), .inr (.inl (some 9)), .inr (.inl (some 10)), .inl (false, ((.ofNat 3), [])), .inl (false, ((.ofNat 5), [])), .inr (.inl (some 11)), .inl (false, ((.ofNat 100), [])), .inl (false, ((.ofNat 0), [])), .inr (.inl (some 16)), .inr (.inl (some 17)), .inr (.inl (some 18)), .inr (.inl (some 22)), .inl (false, ((.ofNat 0), [])), .inr (.inl (some 28)), .inr (.inl (some 29)), .inr (.inl (some 30))]),
    .inr (4, .inr (.inr [some 31, some 36])),
    .inl (3, [.inr (.inl (some 4)), .inr (.inl (some 5)), .inl (false, ((.ofNat 0), [])), .inr (.inl (some 6)), .inr (.inl (some 7)), .inr (.inl (some 8))]),
    zc0,
    zc0,
    zc1,
    zc1,
    zc1,
    zc1,
    zc1,
    .inl (4, [.inl (false, ((.ofNat 0), [])), .inr (.inl (some 12)), .inr (.inl (some 13)), .inr (.inl (some 14)), .inr (.inl (some 15))]),
    zc0,
    zc0,
    zc0,
    zc0,
    zc4,
    zc5,
    .inl (5, [.inl (false, ((.ofNat 0), [])), .inr (.inl (some 19)), .inl (false, ((.ofNat 1), [])), .inl (false, ((.ofNat 0), [])), .inl (false, ((.ofNat 0), [])), .inr (.inl (some 20)), .inr (.inl (some 21))]),
    zc2,
    zc3,
    .inr (1, .inr (.inl 1000000060)),
    .inl (6, [.inl (false, ((.ofNat 0), [])), .inr (.inl (some 23)), .inr (.inl (some 24)), .inr (.inl (some 25)), .inr (.inl (some 26)), .inr (.inl (some 27))]),
    zc1,
    zc1,
    zc1,
    zc1,
    zc1,
    zc6,
    zc7,
    zc7,
    .inl (2, [.inl (false, ((.ofNat 0), [])), .inr (.inl (some 32)), .inr (.inl (some 33)), .inr (.inl (some 34)), .inr (.inl (some 35))]),
    zc3,
    zc3,
    zc3,
    zc3,
    .inl (2, [.inl (false, ((.ofNat 0), [])), .inr (.inl (some 37)), .inr (.inl (some 38)), .inr (.inl (some 39)), .inr (.inl (some 40))]),
    zc3,
    zc3,
    zc3,
    zc3,
    .inl (7, [.inr (.inl (some 42)), .inl (false, ((.ofNat 7), [])), .inr (.inl (some 43)), .inr (.inl (some 47)), .inr (.inl (some 48)), .inl (false, ((.ofNat 0), [])), .inl (false, ((.ofNat 0), [])), .inl (false, ((.ofNat 0), [])), .inl (false, ((.ofNat 0), [])), .inl (false, ((.ofNat 0), [])), .inl (false, ((.ofNat 0), [])), .inl (false, ((.ofNat 0), [])), .inl (false, ((.ofNat 0), [])), .inl (false, ((.ofNat 0), [])), .inl (false, ((.ofNat 0), [])), .inl (false, ((.ofNat 0), [])), .inl (false, ((.negSucc 0), []))]),
    .inr (5, .inr (.inr [some 49, some 51, some 53, some 55])),
    .inl (9, [.inr (.inl (some 44)), .inr (.inl (some 45)), .inr (.inl (some 46)), .inl (false, ((.ofNat 0), []))]),
    zc9,
    zc1,
    zc1,
    zc12,
    zc0,
    .inl (8, [.inr (.inl (some 50)), .inl (false, ((.ofNat 0), [])), .inl (false, ((.ofNat 0), [])), .inl (false, ((.ofNat 0), [])), .inl (false, ((.ofNat 0), []))]),
    zc11,
    .inl (8, [.inr (.inl (some 52)), .inl (false, ((.ofNat 0), [])), .inl (false, ((.ofNat 0), [])), .inl (false, ((.ofNat 0), [])), .inl (false, ((.ofNat 0), []))]),
    zc11,
    .inl (8, [.inr (.inl (some 54)), .inl (false, ((.ofNat 0), [])), .inl (false, ((.ofNat 0), [])), .inl (false, ((.ofNat 0), [])), .inl (false, ((.ofNat 0), []))]),
    zc11,
    .inl (8, [.inr (.inl (some 56)), .inl (false, ((.ofNat 0), [])), .inl (false, ((.ofNat 0), [])), .inl (false, ((.ofNat 0), [])), .inl (false, ((.ofNat 0), []))]),
    zc11,
    zc22,
    .inr (1, .inr (.inl 1000000006)),
    .inr (1, .inr (.inl 1000000004)),
    .inr (6, .inr (.inr [none, none])),
    .inr (7, .inr (.inr [none, none]))], [(0, [32, 33, 34, 35], []), (0, [37, 38, 39, 40], [])]), 61, 1022)])
noncomputable def c0_0_e : List Ct := [c1_0, c7_0, c10_0]
noncomputable def c0_0_pts : List PE := []
set_option maxRecDepth 100000 in
theorem c0_0_k : enCtF c0_0 c0_0_e (c0_0_pts ++ []) (none) noH 4000 = true := by decide +kernel
set_option maxRecDepth 100000 in
theorem c0_0_v : ValidC PPk c0_0 := ct_ok fpk noH_ok (d := 2) (ext := []) (pts := c0_0_pts) (env := c0_0_e) rfl (List.forall_mem_cons.mpr ⟨⟨c1_0_v, Nat.le_of_ble_eq_true rfl⟩, List.forall_mem_cons.mpr ⟨⟨c7_0_v, Nat.le_of_ble_eq_true rfl⟩, List.forall_mem_cons.mpr ⟨⟨c10_0_v, Nat.le_of_ble_eq_true rfl⟩, fun _ h => (by cases h)⟩⟩⟩) ext_nil (fun q h => (by cases h)) (enF c0_0_k) (fun _ h => (by cases h))

noncomputable def c12_0 : Ct := (12, 1, (3, [(0, (.negSucc 2147483647), (.ofNat 2147483647)), (1, (.negSucc 2147483647), (.ofNat 2147483647)), (2, (.negSucc 2147483647), (.ofNat 2147483647))], [], [.inl (false, ((.ofNat 0), [(0, (.ofNat 1))])), .inl (false, ((.ofNat 0), [(1, (.ofNat 1))])), .inl (false, ((.ofNat 0), [(2, (.ofNat 1))]))], [], []),
  [((3, [(0, (.negSucc 2147483647), (.ofNat 2147483646)), (1, (.negSucc 2147483646), (.ofNat 2147483647))], [((.ofNat 1), [(0, (.ofNat 1)), (1, (.negSucc 0))])], [.inl (false, ((.ofNat 0), []))], [], []), 0, 0),
   ((3, [(0, (.negSucc 2147483646), (.ofNat 2147483647)), (2, (.negSucc 2147483647), (.ofNat 2147483646))], [((.ofNat 1), [(0, (.negSucc 0)), (2, (.ofNat 1))]), ((.ofNat 0), [(0, (.negSucc 0)), (1, (.ofNat 1))])], [.inl (false, ((.ofNat 0), []))], [], []), 0, 0),
   ((3, [], [((.ofNat 0), [(0, (.ofNat 1)), (2, (.negSucc 0))]), ((.ofNat 0), [(0, (.negSucc 0)), (1, (.ofNat 1))])], [.inl (false, ((.ofNat 1), []))], [], []), 0, 0)])
noncomputable def c12_0_e : List Ct := []
noncomputable def c12_0_pts : List PE := []
set_option maxRecDepth 100000 in
theorem c12_0_k : enCtF c12_0 c12_0_e (c12_0_pts ++ []) (none) noH 3000 = true := by decide +kernel
set_option maxRecDepth 100000 in
theorem c12_0_v : ValidC PPk c12_0 := ct_ok fpk noH_ok (d := 0) (ext := []) (pts := c12_0_pts) (env := c12_0_e) rfl (fun _ h => (by cases h)) ext_nil (fun q h => (by cases h)) (enF c12_0_k) (fun _ h => (by cases h))

def zc23 : AC := .inl (8, [.inr (.inl (some 1)), .inl (false, ((.ofNat 0), [(0, (.ofNat 1))])), .inl (false, ((.ofNat 0), [(1, (.ofNat 1))])), .inl (false, ((.ofNat 0), [(2, (.ofNat 1))])), .inl (false, ((.ofNat 0), [(3, (.ofNat 1))]))])
def zc24 : AC := .inr (0, .inl [.inr (12, (.negSucc 2147483647), (.ofNat 2147483647))])
noncomputable def c14_0 : Ct := (14, 1, (4, [(0, (.negSucc 2147483647), (.ofNat 2147483647)), (1, (.negSucc 2147483647), (.ofNat 2147483647)), (2, (.negSucc 2147483647), (.ofNat 2147483647)), (3, (.negSucc 2147483647), (.ofNat 2147483647))], [], [.inr (.inl (some 0))], [zc23,
    zc24], []),
  [((4, [], [], [], [zc10,
    zc24], []), 0, 0)])
noncomputable def c14_0_e : List Ct := []
noncomputable def c14_0_p0 : PE := (2, [0, 1], (5, [(0, (.negSucc 2147483647), (.ofNat 2147483647)), (1, (.negSucc 2147483647), (.ofNat 2147483647)), (2, (.negSucc 2147483647), (.ofNat 2147483647)), (3, (.negSucc 2147483647), (.ofNat 2147483647)), (4, (.ofNat 0), (.ofNat 12))], [], [.inr (.inl (some 0)), .inl (false, ((.ofNat 0), [(4, (.ofNat 1))]))], [zc23,
    zc24], []), symsL 4 0, some ((.ofNat 25), [(4, (.negSucc 0))]), 0, 0)
noncomputable def c14_0_pts : List PE := [c14_0_p0]
set_option maxRecDepth 100000 in
theorem c14_0_k : enCtF c14_0 c14_0_e (c14_0_pts ++ []) (none) (noF, noM, 4, 0, 4) 3000 = true := by decide +kernel
set_option maxRecDepth 100000 in
theorem c14_0_k0 : ptCtF c14_0 c14_0_e (c14_0_pts ++ []) (noF, noM, 4, 0, 4) 3000 c14_0_p0 = true := by decide +kernel
set_option maxRecDepth 100000 in
theorem c14_0_v : ValidC PPk c14_0 := ct_ok fpk ⟨noF_ok, noM_ok⟩ (d := 0) (ext := []) (pts := c14_0_pts) (env := c14_0_e) rfl (fun _ h => (by cases h)) ext_nil (fun q h => (by cases h)) (enF c14_0_k) (List.forall_mem_cons.mpr ⟨ptF c14_0_k0, fun _ h => (by cases h)⟩)

def zc25 : AC := .inl (7, [.inr (.inl (some 1)), .inl (false, ((.ofNat 0), [(1, (.ofNat 1))])), .inr (.inl (some 10)), .inr (.inl (some 14)), .inr (.inl (some 15)), .inl (false, ((.ofNat 0), [(2, (.ofNat 1))])), .inl (false, ((.ofNat 0), [(3, (.ofNat 1))])), .inl (false, ((.ofNat 0), [(4, (.ofNat 1))])), .inl (false, ((.ofNat 0), [(5, (.ofNat 1))])), .inl (false, ((.ofNat 0), [(6, (.ofNat 1))])), .inl (false, ((.ofNat 0), [(7, (.ofNat 1))])), .inl (false, ((.ofNat 0), [(8, (.ofNat 1))])), .inl (false, ((.ofNat 0), [(9, (.ofNat 1))])), .inl (false, ((.ofNat 0), [(10, (.ofNat 1))])), .inl (false, ((.ofNat 0), [(11, (.ofNat 1))])), .inl (false, ((.ofNat 0), [(12, (.ofNat 1))])), .inl (false, ((.ofNat 0), [(13, (.ofNat 1))]))])
def zc26 : AC := .inr (5, .inr (.inr [some 2, some 4, some 6, some 8]))
def zc27 : AC := .inl (8, [.inr (.inl (some 3)), .inl (false, ((.ofNat 0), [(14, (.ofNat 1))])), .inl (false, ((.ofNat 0), [(15, (.ofNat 1))])), .inl (false, ((.ofNat 0), [(16, (.ofNat 1))])), .inl (false, ((.ofNat 0), [(17, (.ofNat 1))]))])
def zc28 : AC := .inl (8, [.inr (.inl (some 5)), .inl (false, ((.ofNat 0), [(18, (.ofNat 1))])), .inl (false, ((.ofNat 0), [(19, (.ofNat 1))])), .inl (false, ((.ofNat 0), [(20, (.ofNat 1))])), .inl (false, ((.ofNat 0), [(21, (.ofNat 1))]))])
def zc29 : AC := .inl (9, [.inr (.inl (some 11)), .inr (.inl (some 12)), .inr (.inl (some 13)), .inl (false, ((.ofNat 0), [(30, (.ofNat 1))]))])
def zc30 : AC := .inr (100, .inl [.inl ((.ofNat 0), [(31, (.ofNat 1))])])
def zc31 : AC := .inr (100, .inl [.inl ((.ofNat 0), [(32, (.ofNat 1))])])
def zc32 : AC := .inr (100, .inl [.inl ((.ofNat 0), [(33, (.ofNat 1))])])
def zc33 : AC := .inr (100, .inl [.inl ((.ofNat 0), [(34, (.ofNat 1))])])
def zc34 : AC := .inr (100, .inl [.inl ((.ofNat 0), [(35, (.ofNat 1))])])
def zc35 : AC := .inl (8, [.inr (.inl (some 3)), .inl (false, ((.ofNat 0), [(37, (.ofNat 1))])), .inl (false, ((.ofNat 0), [(38, (.ofNat 1))])), .inl (false, ((.ofNat 0), [(39, (.ofNat 1))])), .inl (false, ((.ofNat 0), [(40, (.ofNat 1))]))])
def zc36 : AC := .inl (8, [.inr (.inl (some 5)), .inl (false, ((.ofNat 0), [(41, (.ofNat 1))])), .inl (false, ((.ofNat 0), [(42, (.ofNat 1))])), .inl (false, ((.ofNat 0), [(43, (.ofNat 1))])), .inl (false, ((.ofNat 0), [(44, (.ofNat 1))]))])
def zc37 : AC := .inl (8, [.inr (.inl (some 7)), .inl (false, ((.ofNat 0), [(45, (.ofNat 1))])), .inl (false, ((.ofNat 0), [(46, (.ofNat 1))])), .inl (false, ((.ofNat 0), [(47, (.ofNat 1))])), .inl (false, ((.ofNat 0), [(48, (.ofNat 1))]))])
def zc38 : AC := .inl (8, [.inr (.inl (some 9)), .inl (false, ((.ofNat 0), [(49, (.ofNat 1))])), .inl (false, ((.ofNat 0), [(50, (.ofNat 1))])), .inl (false, ((.ofNat 0), [(51, (.ofNat 1))])), .inl (false, ((.ofNat 0), [(52, (.ofNat 1))]))])
noncomputable def c13_0 : Ct := (13, 2, (36, [(0, (.ofNat 1), (.ofNat 4)), (1, (.negSucc 2147483647), (.ofNat 2147483647)), (2, (.negSucc 2147483647), (.ofNat 2147483647)), (3, (.negSucc 2147483647), (.ofNat 2147483647)), (4, (.negSucc 2147483647), (.ofNat 2147483647)), (5, (.negSucc 2147483647), (.ofNat 2147483647)), (6, (.negSucc 2147483647), (.ofNat 2147483647)), (7, (.ofNat 0), (.ofNat 3)), (8, (.negSucc 2147483647), (.ofNat 2147483647)), (9, (.negSucc 2147483647), (.ofNat 2147483647)), (10, (.negSucc 2147483647), (.ofNat 2147483647)), (11, (.negSucc 2147483647), (.ofNat 2147483647)), (12, (.ofNat 0), (.ofNat 1)), (13, (.negSucc 2147483647), (.ofNat 2147483647)), (14, (.negSucc 2147483647), (.ofNat 2147483647)), (15, (.negSucc 2147483647), (.ofNat 2147483647)), (16, (.negSucc 2147483647), (.ofNat 2147483647)), (17, (.negSucc 2147483647), (.ofNat 2147483647)), (18, (.negSucc 2147483647), (.ofNat 2147483647)), (19, (.negSucc 2147483647), (.ofNat 2147483647)), (20, (.negSucc 2147483647), (.ofNat 2147483647)), (21, (.negSucc 2147483647), (.ofNat 2147483647)), (22, (.negSucc 2147483647), (.ofNat 2147483647)), (23, (.negSucc 2147483647), (.ofNat 2147483647)), (24, (.negSucc 2147483647), (.ofNat 2147483647)), (25, (.negSucc 2147483647), (.ofNat 2147483647)), (26, (.negSucc 2147483647), (.ofNat 2147483647)), (27, (.negSucc 2147483647), (.ofNat 2147483647)), (28, (.negSucc 2147483647), (.ofNat 2147483647)), (29, (.negSucc 2147483647), (.ofNat 2147483647)), (30, (.negSucc 2147483647), (.ofNat 2147483647))], [], [.inr (.inl (some 0)), .inl (false, ((.ofNat 0), [(0, (.ofNat 1))]))], [zc25,
    zc26,
    zc27,
    zc24,
    zc28,
    zc24,
    .inl (8, [.inr (.inl (some 7)), .inl (false, ((.ofNat 0), [(22, (.ofNat 1))])), .inl (false, ((.ofNat 0), [(23, (.ofNat 1))])), .inl (false, ((.ofNat 0), [(24, (.ofNat 1))])), .inl (false, ((.ofNat 0), [(25, (.ofNat 1))]))]),
    zc24,
    .inl (8, [.inr (.inl (some 9)), .inl (false, ((.ofNat 0), [(26, (.ofNat 1))])), .inl (false, ((.ofNat 0), [(27, (.ofNat 1))])), .inl (false, ((.ofNat 0), [(28, (.ofNat 1))])), .inl (false, ((.ofNat 0), [(29, (.ofNat 1))]))]),
    zc24,
    zc29,
    zc30,
    zc31,
    zc32,
    zc33,
    zc34], []),
  [((53, [(36, (.ofNat 1), (.ofNat 15)), (37, (.negSucc 2147483647), (.ofNat 2147483647)), (38, (.negSucc 2147483647), (.ofNat 2147483647)), (39, (.negSucc 2147483647), (.ofNat 2147483647)), (40, (.negSucc 2147483647), (.ofNat 2147483647)), (41, (.negSucc 2147483647), (.ofNat 2147483647)), (42, (.negSucc 2147483647), (.ofNat 2147483647)), (43, (.negSucc 2147483647), (.ofNat 2147483647)), (44, (.negSucc 2147483647), (.ofNat 2147483647)), (45, (.negSucc 2147483647), (.ofNat 2147483647)), (46, (.negSucc 2147483647), (.ofNat 2147483647)), (47, (.negSucc 2147483647), (.ofNat 2147483647)), (48, (.negSucc 2147483647), (.ofNat 2147483647)), (49, (.negSucc 2147483647), (.ofNat 2147483647)), (50, (.negSucc 2147483647), (.ofNat 2147483647)), (51, (.negSucc 2147483647), (.ofNat 2147483647)), (52, (.negSucc 2147483647), (.ofNat 2147483647))], [], [], [.inl (7, [.inr (.inl (some 1)), .inl (false, ((.ofNat 0), [(36, (.ofNat 1))])), .inr (.inl (some 10)), .inr (.inl (some 14)), .inr (.inl (some 15)), .inl (false, ((.ofNat 0), [(2, (.ofNat 1))])), .inl (false, ((.ofNat 0), [(3, (.ofNat 1))])), .inl (false, ((.ofNat 0), [(4, (.ofNat 1))])), .inl (false, ((.ofNat 0), [(5, (.ofNat 1))])), .inl (false, ((.ofNat 0), [(6, (.ofNat 1))])), .inl (false, ((.ofNat 0), [(7, (.ofNat 1))])), .inl (false, ((.ofNat 0), [(8, (.ofNat 1))])), .inl (false, ((.ofNat 0), [(9, (.ofNat 1))])), .inl (false, ((.ofNat 0), [(10, (.ofNat 1))])), .inl (false, ((.ofNat 0), [(11, (.ofNat 1))])), .inl (false, ((.ofNat 0), [(12, (.ofNat 1))])), .inl (false, ((.ofNat 0), [(13, (.ofNat 1))]))]),
    zc26,
    zc35,
    zc24,
    zc36,
    zc24,
    zc37,
    zc24,
    zc38,
    zc24,
    zc29,
    zc30,
    zc31,
    zc32,
    zc33,
    zc34], []), 0, 0)])
noncomputable def c13_0_e : List Ct := [c14_0]
noncomputable def c13_0_p0 : PE := (2, [0, 1, 2], (53, [(0, (.ofNat 1), (.ofNat 4)), (1, (.negSucc 2147483647), (.ofNat 2147483647)), (2, (.negSucc 2147483647), (.ofNat 2147483647)), (3, (.negSucc 2147483647), (.ofNat 2147483647)), (4, (.negSucc 2147483647), (.ofNat 2147483647)), (5, (.negSucc 2147483647), (.ofNat 2147483647)), (6, (.negSucc 2147483647), (.ofNat 2147483647)), (7, (.ofNat 0), (.ofNat 3)), (8, (.negSucc 2147483647), (.ofNat 2147483647)), (9, (.negSucc 2147483647), (.ofNat 2147483647)), (10, (.negSucc 2147483647), (.ofNat 2147483647)), (11, (.negSucc 2147483647), (.ofNat 2147483647)), (12, (.ofNat 0), (.ofNat 1)), (13, (.negSucc 2147483647), (.ofNat 2147483647)), (14, (.negSucc 2147483647), (.ofNat 2147483647)), (15, (.negSucc 2147483647), (.ofNat 2147483647)), (16, (.negSucc 2147483647), (.ofNat 2147483647)), (17, (.negSucc 2147483647), (.ofNat 2147483647)), (18, (.negSucc 2147483647), (.ofNat 2147483647)), (19, (.negSucc 2147483647), (.ofNat 2147483647)), (20, (.negSucc 2147483647), (.ofNat 2147483647)), (21, (.negSucc 2147483647), (.ofNat 2147483647)), (22, (.negSucc 2147483647), (.ofNat 2147483647)), (23, (.negSucc 2147483647), (.ofNat 2147483647)), (24, (.negSucc 2147483647), (.ofNat 2147483647)), (25, (.negSucc 2147483647), (.ofNat 2147483647)), (26, (.negSucc 2147483647), (.ofNat 2147483647)), (27, (.negSucc 2147483647), (.ofNat 2147483647)), (28, (.negSucc 2147483647), (.ofNat 2147483647)), (29, (.negSucc 2147483647), (.ofNat 2147483647)), (30, (.negSucc 2147483647), (.ofNat 2147483647)), (36, (.ofNat 0), (.ofNat 4)), (37, (.negSucc 2147483647), (.ofNat 2147483647)), (38, (.negSucc 2147483647), (.ofNat 2147483647)), (39, (.negSucc 2147483647), (.ofNat 2147483647)), (40, (.negSucc 2147483647), (.ofNat 2147483647)), (41, (.negSucc 2147483647), (.ofNat 2147483647)), (42, (.negSucc 2147483647), (.ofNat 2147483647)), (43, (.negSucc 2147483647), (.ofNat 2147483647)), (44, (.negSucc 2147483647), (.ofNat 2147483647)), (45, (.negSucc 2147483647), (.ofNat 2147483647)), (46, (.negSucc 2147483647), (.ofNat 2147483647)), (47, (.negSucc 2147483647), (.ofNat 2147483647)), (48, (.negSucc 2147483647), (.ofNat 2147483647)), (49, (.negSucc 2147483647), (.ofNat 2147483647)), (50, (.negSucc 2147483647), (.ofNat 2147483647)), (51, (.negSucc 2147483647), (.ofNat 2147483647)), (52, (.negSucc 2147483647), (.ofNat 2147483647))], [], [.inr (.inl (some 0)), .inl (false, ((.ofNat 0), [(0, (.ofNat 1))])), .inl (false, ((.ofNat 0), [(36, (.ofNat 1))]))], [zc25,
    zc26,
    zc35,
    zc24,
    zc36,
    zc24,
    zc37,
    zc24,
    zc38,
    zc24,
    zc29,
    zc30,
    zc31,
    zc32,
    zc33,
    zc34], []), symsL 36 0, some ((.ofNat 9), [(36, (.negSucc 0))]), 0, 0)
noncomputable def c13_0_pts : List PE := [c13_0_p0]
set_option maxRecDepth 100000 in
theorem c13_0_k : enCtF c13_0 c13_0_e (c13_0_pts ++ []) (none) (noF, noM, 4, 0, 36) 3000 = true := by decide +kernel
set_option maxRecDepth 100000 in
theorem c13_0_k0 : ptCtF c13_0 c13_0_e (c13_0_pts ++ []) (noF, noM, 4, 0, 36) 3000 c13_0_p0 = true := by decide +kernel
set_option maxRecDepth 100000 in
theorem c13_0_v : ValidC PPk c13_0 := ct_ok fpk ⟨noF_ok, noM_ok⟩ (d := 1) (ext := []) (pts := c13_0_pts) (env := c13_0_e) rfl (List.forall_mem_cons.mpr ⟨⟨c14_0_v, Nat.le_of_ble_eq_true rfl⟩, fun _ h => (by cases h)⟩) ext_nil (fun q h => (by cases h)) (enF c13_0_k) (List.forall_mem_cons.mpr ⟨ptF c13_0_k0, fun _ h => (by cases h)⟩)

def zc39 : AC := .inl (1, [.inl (false, ((.ofNat 0), [(1, (.ofNat 1))])), .inr (.inl (some 2)), .inr (.inl (some 13)), .inr (.inl (some 19)), .inr (.inl (some 20)), .inl (false, ((.ofNat 0), [(2, (.ofNat 1))])), .inl (false, ((.ofNat 0), [(3, (.ofNat 1))])), .inr (.inl (some 21)), .inl (false, ((.ofNat 0), [(4, (.ofNat 1))])), .inl (false, ((.ofNat 0), [(5, (.ofNat 1))])), .inr (.inl (some 26)), .inr (.inl (some 27)), .inr (.inl (some 28)), .inr (.inl (some 32)), .inl (false, ((.ofNat 0), [(6, (.ofNat 1))])), .inr (.inl (some 38)), .inr (.inl (some 39)), .inr (.inl (some 40))])
def zc40 : AC := .inl (2, [.inl (false, ((.ofNat 0), [(7, (.ofNat 1))])), .inr (.inl (some 4)), .inr (.inl (some 5)), .inr (.inl (some 6)), .inr (.inl (some 7))])
def zc41 : AC := .inr (100, .inl [.inl ((.ofNat 0), [(8, (.ofNat 1))])])
def zc42 : AC := .inr (100, .inl [.inl ((.ofNat 0), [(9, (.ofNat 1))])])
def zc43 : AC := .inr (100, .inl [.inl ((.ofNat 0), [(10, (.ofNat 1))])])
def zc44 : AC := .inr (100, .inl [.inl ((.ofNat 0), [(11, (.ofNat 1))])])
def zc45 : AC := .inl (2, [.inl (false, ((.ofNat 0), [(12, (.ofNat 1))])), .inr (.inl (some 9)), .inr (.inl (some 10)), .inr (.inl (some 11)), .inr (.inl (some 12))])
def zc46 : AC := .inr (100, .inl [.inl ((.ofNat 0), [(13, (.ofNat 1))])])
def zc47 : AC := .inr (100, .inl [.inl ((.ofNat 0), [(14, (.ofNat 1))])])
def zc48 : AC := .inr (100, .inl [.inl ((.ofNat 0), [(15, (.ofNat 1))])])
def zc49 : AC := .inr (100, .inl [.inl ((.ofNat 0), [(16, (.ofNat 1))])])
def zc50 : AC := .inl (3, [.inr (.inl (some 14)), .inr (.inl (some 15)), .inl (false, ((.ofNat 0), [(17, (.ofNat 1))])), .inr (.inl (some 16)), .inr (.inl (some 17)), .inr (.inl (some 18))])
def zc51 : AC := .inr (100, .inl [.inl ((.ofNat 0), [(18, (.ofNat 1))])])
def zc52 : AC := .inr (100, .inl [.inl ((.ofNat 0), [(19, (.ofNat 1))])])
def zc53 : AC := .inr (100, .inl [.inl ((.ofNat 0), [(20, (.ofNat 1))])])
def zc54 : AC := .inr (100, .inl [.inl ((.ofNat 0), [(21, (.ofNat 1))])])
def zc55 : AC := .inr (100, .inl [.inl ((.ofNat 0), [(22, (.ofNat 1))])])
def zc56 : AC := .inr (100, .inl [.inl ((.ofNat 0), [(23, (.ofNat 1))])])
def zc57 : AC := .inr (100, .inl [.inl ((.ofNat 0), [(24, (.ofNat 1))])])
def zc58 : AC := .inl (4, [.inl (false, ((.ofNat 0), [(25, (.ofNat 1))])), .inr (.inl (some 22)), .inr (.inl (some 23)), .inr (.inl (some 24)), .inr (.inl (some 25))])
def zc59 : AC := .inr (100, .inl [.inl ((.ofNat 0), [(26, (.ofNat 1))])])
def zc60 : AC := .inr (100, .inl [.inl ((.ofNat 0), [(27, (.ofNat 1))])])
def zc61 : AC := .inr (100, .inl [.inl ((.ofNat 0), [(28, (.ofNat 1))])])
def zc62 : AC := .inr (100, .inl [.inl ((.ofNat 0), [(29, (.ofNat 1))])])
def zc63 : AC := .inr (100, .inl [.inl ((.ofNat 0), [(30, (.ofNat 1))])])
def zc64 : AC := .inl (5, [.inl (false, ((.ofNat 0), [(32, (.ofNat 1))])), .inr (.inl (some 29)), .inl (false, ((.ofNat 0), [(33, (.ofNat 1))])), .inl (false, ((.ofNat 0), [(34, (.ofNat 1))])), .inl (false, ((.ofNat 0), [(35, (.ofNat 1))])), .inr (.inl (some 30)), .inr (.inl (some 31))])
def zc65 : AC := .inr (102, .inl [.inl ((.ofNat 0), [(36, (.ofNat 1))])])
def zc66 : AC := .inr (100, .inl [.inl ((.ofNat 0), [(37, (.ofNat 1))])])
def zc67 : AC := .inl (6, [.inl (false, ((.ofNat 0), [(38, (.ofNat 1))])), .inr (.inl (some 33)), .inr (.inl (some 34)), .inr (.inl (some 35)), .inr (.inl (some 36)), .inr (.inl (some 37))])
def zc68 : AC := .inr (100, .inl [.inl ((.ofNat 0), [(39, (.ofNat 1))])])
def zc69 : AC := .inr (100, .inl [.inl ((.ofNat 0), [(40, (.ofNat 1))])])
def zc70 : AC := .inr (100, .inl [.inl ((.ofNat 0), [(41, (.ofNat 1))])])
def zc71 : AC := .inr (100, .inl [.inl ((.ofNat 0), [(42, (.ofNat 1))])])
def zc72 : AC := .inr (100, .inl [.inl ((.ofNat 0), [(43, (.ofNat 1))])])
def zc73 : AC := .inr (100, .inl [.inl ((.ofNat 0), [(44, (.ofNat 1))])])
def zc74 : AC := .inr (100, .inl [.inl ((.ofNat 0), [(45, (.ofNat 1))])])
def zc75 : AC := .inr (100, .inl [.inl ((.ofNat 0), [(46, (.ofNat 1))])])
def zc76 : AC := .inl (7, [.inr (.inl (some 42)), .inl (false, ((.ofNat 0), [(47, (.ofNat 1))])), .inr (.inl (some 51)), .inr (.inl (some 55)), .inr (.inl (some 56)), .inl (false, ((.ofNat 0), [(48, (.ofNat 1))])), .inl (false, ((.ofNat 0), [(49, (.ofNat 1))])), .inl (false, ((.ofNat 0), [(50, (.ofNat 1))])), .inl (false, ((.ofNat 0), [(51, (.ofNat 1))])), .inl (false, ((.ofNat 0), [(52, (.ofNat 1))])), .inl (false, ((.ofNat 0), [(53, (.ofNat 1))])), .inl (false, ((.ofNat 0), [(54, (.ofNat 1))])), .inl (false, ((.ofNat 0), [(55, (.ofNat 1))])), .inl (false, ((.ofNat 0), [(56, (.ofNat 1))])), .inl (false, ((.ofNat 0), [(57, (.ofNat 1))])), .inl (false, ((.ofNat 0), [(58, (.ofNat 1))])), .inl (false, ((.ofNat 0), [(59, (.ofNat 1))]))])
def zc77 : AC := .inr (5, .inr (.inr [some 43, some 45, some 47, some 49]))
def zc78 : AC := .inl (8, [.inr (.inl (some 44)), .inl (false, ((.ofNat 0), [(60, (.ofNat 1))])), .inl (false, ((.ofNat 0), [(61, (.ofNat 1))])), .inl (false, ((.ofNat 0), [(62, (.ofNat 1))])), .inl (false, ((.ofNat 0), [(63, (.ofNat 1))]))])
def zc79 : AC := .inl (8, [.inr (.inl (some 46)), .inl (false, ((.ofNat 0), [(64, (.ofNat 1))])), .inl (false, ((.ofNat 0), [(65, (.ofNat 1))])), .inl (false, ((.ofNat 0), [(66, (.ofNat 1))])), .inl (false, ((.ofNat 0), [(67, (.ofNat 1))]))])
def zc80 : AC := .inl (8, [.inr (.inl (some 48)), .inl (false, ((.ofNat 0), [(68, (.ofNat 1))])), .inl (false, ((.ofNat 0), [(69, (.ofNat 1))])), .inl (false, ((.ofNat 0), [(70, (.ofNat 1))])), .inl (false, ((.ofNat 0), [(71, (.ofNat 1))]))])
def zc81 : AC := .inl (8, [.inr (.inl (some 50)), .inl (false, ((.ofNat 0), [(72, (.ofNat 1))])), .inl (false, ((.ofNat 0), [(73, (.ofNat 1))])), .inl (false, ((.ofNat 0), [(74, (.ofNat 1))])), .inl (false, ((.ofNat 0), [(75, (.ofNat 1))]))])
def zc82 : AC := .inl (9, [.inr (.inl (some 52)), .inr (.inl (some 53)), .inr (.inl (some 54)), .inl (false, ((.ofNat 0), [(76, (.ofNat 1))]))])
def zc83 : AC := .inr (100, .inl [.inl ((.ofNat 0), [(77, (.ofNat 1))])])
def zc84 : AC := .inr (100, .inl [.inl ((.ofNat 0), [(78, (.ofNat 1))])])
def zc85 : AC := .inr (100, .inl [.inl ((.ofNat 0), [(79, (.ofNat 1))])])
def zc86 : AC := .inr (100, .inl [.inl ((.ofNat 0), [(80, (.ofNat 1))])])
def zc87 : AC := .inr (100, .inl [.inl ((.ofNat 0), [(81, (.ofNat 1))])])
noncomputable def c11_0 : Ct := (11, 3, (82, [(0, (.negSucc 2147483647), (.ofNat 2147483647)), (1, (.ofNat 1), (.ofNat 4)), (2, (.negSucc 2147483647), (.ofNat 2147483647)), (3, (.negSucc 2147483647), (.ofNat 2147483647)), (4, (.ofNat 1), (.ofNat 1000)), (5, (.ofNat 0), (.ofNat 50)), (6, (.ofNat 0), (.ofNat 10)), (7, (.ofNat 0), (.ofNat 60)), (12, (.ofNat 0), (.ofNat 60)), (17, (.ofNat 0), (.ofNat 8)), (25, (.ofNat 0), (.ofNat 6)), (32, (.ofNat 0), (.ofNat 60)), (33, (.negSucc 2147483647), (.ofNat 2147483647)), (34, (.ofNat 0), (.ofNat 60)), (35, (.ofNat 0), (.ofNat 60)), (38, (.ofNat 0), (.ofNat 8)), (47, (.negSucc 2147483647), (.ofNat 2147483647)), (48, (.negSucc 2147483647), (.ofNat 2147483647)), (49, (.negSucc 2147483647), (.ofNat 2147483647)), (50, (.negSucc 2147483647), (.ofNat 2147483647)), (51, (.negSucc 2147483647), (.ofNat 2147483647)), (52, (.negSucc 2147483647), (.ofNat 2147483647)), (53, (.ofNat 0), (.ofNat 3)), (54, (.negSucc 2147483647), (.ofNat 2147483647)), (55, (.negSucc 2147483647), (.ofNat 2147483647)), (56, (.negSucc 2147483647), (.ofNat 2147483647)), (57, (.negSucc 2147483647), (.ofNat 2147483647)), (58, (.ofNat 0), (.ofNat 1)), (59, (.negSucc 2147483647), (.ofNat 2147483647)), (60, (.negSucc 2147483647), (.ofNat 2147483647)), (61, (.negSucc 2147483647), (.ofNat 2147483647)), (62, (.negSucc 2147483647), (.ofNat 2147483647)), (63, (.negSucc 2147483647), (.ofNat 2147483647)), (64, (.negSucc 2147483647), (.ofNat 2147483647)), (65, (.negSucc 2147483647), (.ofNat 2147483647)), (66, (.negSucc 2147483647), (.ofNat 2147483647)), (67, (.negSucc 2147483647), (.ofNat 2147483647)), (68, (.negSucc 2147483647), (.ofNat 2147483647)), (69, (.negSucc 2147483647), (.ofNat 2147483647)), (70, (.negSucc 2147483647), (.ofNat 2147483647)), (71, (.negSucc 2147483647), (.ofNat 2147483647)), (72, (.negSucc 2147483647), (.ofNat 2147483647)), (73, (.negSucc 2147483647), (.ofNat 2147483647)), (74, (.negSucc 2147483647), (.ofNat 2147483647)), (75, (.negSucc 2147483647), (.ofNat 2147483647)), (76, (.negSucc 2147483647), (.ofNat 2147483647))], [], [.inr (.inl (some 0)), .inl (false, ((.ofNat 0), [(0, (.ofNat 1))]))], [zc21,
    zc39,
    .inr (4, .inr (.inr [some 3, some 8])),
    zc40,
    zc41,
    zc42,
    zc43,
    zc44,
    zc45,
    zc46,
    zc47,
    zc48,
    zc49,
    zc50,
    zc51,
    zc52,
    zc53,
    zc54,
    zc55,
    zc56,
    zc57,
    zc58,
    zc59,
    zc60,
    zc61,
    zc62,
    zc63,
    zc30,
    zc64,
    zc65,
    zc66,
    .inr (1, .inr (.inl 60)),
    zc67,
    zc68,
    zc69,
    zc70,
    zc71,
    zc72,
    zc73,
    zc74,
    zc75,
    zc76,
    zc77,
    zc78,
    zc24,
    zc79,
    zc24,
    zc80,
    zc24,
    zc81,
    zc24,
    zc82,
    zc83,
    zc84,
    zc85,
    zc86,
    zc87,
    zc22,
    .inr (1, .inr (.inl 6)),
    .inr (1, .inr (.inl 4)),
    .inr (6, .inr (.inr [none, none])),
    .inr (7, .inr (.inr [none, none]))], [(0, [4, 5, 6, 7], []), (0, [9, 10, 11, 12], [])]),
  [((101, [(82, (.negSucc 2), (.ofNat 1)), (83, (.ofNat 1), (.ofNat 4)), (84, (.negSucc 2147483647), (.ofNat 2147483647)), (85, (.negSucc 2147483647), (.ofNat 2147483647)), (86, (.negSucc 2147483647), (.ofNat 2147483647)), (87, (.negSucc 2147483647), (.ofNat 2147483647)), (88, (.negSucc 2147483647), (.ofNat 2147483647)), (89, (.negSucc 2147483647), (.ofNat 2147483647)), (90, (.negSucc 2147483647), (.ofNat 2147483647)), (91, (.negSucc 2147483647), (.ofNat 2147483647)), (92, (.negSucc 2147483647), (.ofNat 2147483647)), (93, (.negSucc 2147483647), (.ofNat 2147483647)), (94, (.negSucc 2147483647), (.ofNat 2147483647)), (95, (.negSucc 2147483647), (.ofNat 2147483647)), (96, (.negSucc 2147483647), (.ofNat 2147483647)), (97, (.negSucc 2147483647), (.ofNat 2147483647)), (98, (.negSucc 2147483647), (.ofNat 2147483647)), (99, (.negSucc 2147483647), (.ofNat 2147483647)), (100, (.negSucc 2147483647), (.ofNat 2147483647))], [], [.inl (false, ((.ofNat 0), [(82, (.ofNat 1))]))], [zc21,
    .inl (1, [.inl (false, ((.ofNat 0), [(83, (.ofNat 1))])), .inr (.inl (some 2)), .inr (.inl (some 13)), .inr (.inl (some 19)), .inr (.inl (some 20)), .inl (false, ((.ofNat 0), [(2, (.ofNat 1))])), .inl (false, ((.ofNat 0), [(3, (.ofNat 1))])), .inr (.inl (some 21)), .inl (false, ((.ofNat 0), [(4, (.ofNat 1))])), .inl (false, ((.ofNat 0), [(5, (.ofNat 1))])), .inr (.inl (some 26)), .inr (.inl (some 27)), .inr (.inl (some 28)), .inr (.inl (some 32)), .inl (false, ((.ofNat 0), [(6, (.ofNat 1))])), .inr (.inl (some 38)), .inr (.inl (some 39)), .inr (.inl (some 40))]),
    .inr (4, .inr (.inr [some 3, some 8])),
    zc40,
    zc41,
    zc42,
    zc43,
    zc44,
    zc45,
    zc46,
    zc47,
    zc48,
    zc49,
    zc50,
    zc51,
    zc52,
    zc53,
    zc54,
    zc55,
    zc56,
    zc57,
    zc58,
    zc59,
    zc60,
    zc61,
    zc62,
    zc63,
    zc30,
    zc64,
    zc65,
    zc66,
    .inr (1, .inr (.inl 60)),
    zc67,
    zc68,
    zc69,
    zc70,
    zc71,
    zc72,
    zc73,
    zc74,
    zc75,
    .inl (7, [.inr (.inl (some 42)), .inl (false, ((.ofNat 0), [(84, (.ofNat 1))])), .inr (.inl (some 51)), .inr (.inl (some 55)), .inr (.inl (some 56)), .inl (false, ((.ofNat 0), [(48, (.ofNat 1))])), .inl (false, ((.ofNat 0), [(49, (.ofNat 1))])), .inl (false, ((.ofNat 0), [(50, (.ofNat 1))])), .inl (false, ((.ofNat 0), [(51, (.ofNat 1))])), .inl (false, ((.ofNat 0), [(52, (.ofNat 1))])), .inl (false, ((.ofNat 0), [(53, (.ofNat 1))])), .inl (false, ((.ofNat 0), [(54, (.ofNat 1))])), .inl (false, ((.ofNat 0), [(55, (.ofNat 1))])), .inl (false, ((.ofNat 0), [(56, (.ofNat 1))])), .inl (false, ((.ofNat 0), [(57, (.ofNat 1))])), .inl (false, ((.ofNat 0), [(58, (.ofNat 1))])), .inl (false, ((.ofNat 0), [(59, (.ofNat 1))]))]),
    zc77,
    .inl (8, [.inr (.inl (some 44)), .inl (false, ((.ofNat 0), [(85, (.ofNat 1))])), .inl (false, ((.ofNat 0), [(86, (.ofNat 1))])), .inl (false, ((.ofNat 0), [(87, (.ofNat 1))])), .inl (false, ((.ofNat 0), [(88, (.ofNat 1))]))]),
    zc24,
    .inl (8, [.inr (.inl (some 46)), .inl (false, ((.ofNat 0), [(89, (.ofNat 1))])), .inl (false, ((.ofNat 0), [(90, (.ofNat 1))])), .inl (false, ((.ofNat 0), [(91, (.ofNat 1))])), .inl (false, ((.ofNat 0), [(92, (.ofNat 1))]))]),
    zc24,
    .inl (8, [.inr (.inl (some 48)), .inl (false, ((.ofNat 0), [(93, (.ofNat 1))])), .inl (false, ((.ofNat 0), [(94, (.ofNat 1))])), .inl (false, ((.ofNat 0), [(95, (.ofNat 1))])), .inl (false, ((.ofNat 0), [(96, (.ofNat 1))]))]),
    zc24,
    .inl (8, [.inr (.inl (some 50)), .inl (false, ((.ofNat 0), [(97, (.ofNat 1))])), .inl (false, ((.ofNat 0), [(98, (.ofNat 1))])), .inl (false, ((.ofNat 0), [(99, (.ofNat 1))])), .inl (false, ((.ofNat 0), [(100, (.ofNat 1))]))]),
    zc24,
    zc82,
    zc83,
    zc84,
    zc85,
    zc86,
    zc87,
    zc22,
    .inr (1, .inr (.inl 6)),
    .inr (1, .inr (.inl 4)),
    .inr (6, .inr (.inr [none, none])),
    .inr (7, .inr (.inr [none, none]))], [(0, [4, 5, 6, 7], []), (0, [9, 10, 11, 12], [])]), 0, 0)])
noncomputable def c11_0_e : List Ct := [c12_0, c13_0]
noncomputable def c11_0_pts : List PE := []
set_option maxRecDepth 100000 in
theorem c11_0_k : enCtF c11_0 c11_0_e (c11_0_pts ++ []) (none) noH 3000 = true := by decide +kernel
set_option maxRecDepth 100000 in
theorem c11_0_v : ValidC PPk c11_0 := ct_ok fpk noH_ok (d := 2) (ext := []) (pts := c11_0_pts) (env := c11_0_e) rfl (List.forall_mem_cons.mpr ⟨⟨c12_0_v, Nat.le_of_ble_eq_true rfl⟩, List.forall_mem_cons.mpr ⟨⟨c13_0_v, Nat.le_of_ble_eq_true rfl⟩, fun _ h => (by cases h)⟩⟩) ext_nil (fun q h => (by cases h)) (enF c11_0_k) (fun _ h => (by cases h))

noncomputable def c17_0 : Ct := (17, 2, (1, [(0, (.negSucc 2147483647), (.ofNat 2147483647))], [], [.inl (false, ((.ofNat 0), [(0, (.ofNat 1))]))], [], []),
  [((1, [], [], [.inl (false, ((.ofNat 0), []))], [], []), 0, 0),
   ((1, [(0, (.ofNat 0), (.ofNat 11))], [], [.inl (false, ((.ofNat 1), []))], [], []), 0, 0)])
noncomputable def c17_0_e : List Ct := [c12_0]
noncomputable def c17_0_pts : List PE := []
set_option maxRecDepth 100000 in
theorem c17_0_k : enCtF c17_0 c17_0_e (c17_0_pts ++ []) (none) noH 3000 = true := by decide +kernel
set_option maxRecDepth 100000 in
theorem c17_0_v : ValidC PPk c17_0 := ct_ok fpk noH_ok (d := 1) (ext := []) (pts := c17_0_pts) (env := c17_0_e) rfl (List.forall_mem_cons.mpr ⟨⟨c12_0_v, Nat.le_of_ble_eq_true rfl⟩, fun _ h => (by cases h)⟩) ext_nil (fun q h => (by cases h)) (enF c17_0_k) (fun _ h => (by cases h))

noncomputable def c16_0 : Ct := (16, 3, (4, [(0, (.negSucc 2147483647), (.ofNat 2147483647)), (1, (.negSucc 2147483647), (.ofNat 2147483647)), (2, (.negSucc 2147483647), (.ofNat 2147483647)), (3, (.negSucc 2147483647), (.ofNat 2147483647))], [], [.inl (false, ((.ofNat 0), [(0, (.ofNat 1))])), .inl (false, ((.ofNat 0), [(1, (.ofNat 1))])), .inl (false, ((.ofNat 0), [(2, (.ofNat 1))])), .inl (false, ((.ofNat 0), [(3, (.ofNat 1))]))], [], []),
  [((4, [(0, (.negSucc 2147483647), (.negSucc 0))], [], [.inl (false, ((.ofNat 0), []))], [], []), 0, 0),
   ((4, [(0, (.ofNat 11), (.ofNat 2147483647))], [], [.inl (false, ((.ofNat 0), []))], [], []), 0, 0),
   ((4, [(0, (.ofNat 0), (.ofNat 10))], [], [.inl (false, ((.ofNat 0), []))], [], []), 0, 0),
   ((4, [(0, (.ofNat 0), (.ofNat 0)), (1, (.ofNat 0), (.ofNat 11))], [], [.inl (false, ((.ofNat 1), []))], [], []), 0, 0),
   ((4, [(0, (.ofNat 1), (.ofNat 1)), (1, (.ofNat 0), (.ofNat 11))], [], [.inl (false, ((.ofNat 0), []))], [], []), 0, 0),
   ((4, [(0, (.ofNat 1), (.ofNat 1)), (1, (.ofNat 0), (.ofNat 11)), (2, (.ofNat 0), (.ofNat 11))], [], [.inl (false, ((.ofNat 0), []))], [], []), 0, 0),
   ((4, [(0, (.ofNat 1), (.ofNat 1)), (1, (.ofNat 0), (.ofNat 11)), (2, (.ofNat 0), (.ofNat 11)), (3, (.ofNat 0), (.ofNat 11))], [], [.inl (false, ((.ofNat 1), []))], [], []), 0, 0),
   ((4, [(0, (.ofNat 2), (.ofNat 2)), (1, (.ofNat 0), (.ofNat 11))], [], [.inl (false, ((.ofNat 0), []))], [], []), 0, 0),
   ((4, [(0, (.ofNat 2), (.ofNat 2)), (1, (.ofNat 0), (.ofNat 11)), (2, (.ofNat 0), (.ofNat 11))], [], [.inl (false, ((.ofNat 0), []))], [], []), 0, 0),
   ((4, [(0, (.ofNat 2), (.ofNat 2)), (1, (.ofNat 0), (.ofNat 11)), (2, (.ofNat 0), (.ofNat 11)), (3, (.ofNat 0), (.ofNat 11))], [], [.inl (false, ((.ofNat 1), []))], [], []), 0, 0),
   ((4, [(0, (.ofNat 3), (.ofNat 3)), (1, (.ofNat 0), (.ofNat 11))], [], [.inl (false, ((.ofNat 0), []))], [], []), 0, 0),
   ((4, [(0, (.ofNat 3), (.ofNat 3)), (1, (.ofNat 0), (.ofNat 11)), (2, (.ofNat 0), (.ofNat 11))], [], [.inl (false, ((.ofNat 0), []))], [], []), 0, 0),
   ((4, [(0, (.ofNat 3), (.ofNat 3)), (1, (.ofNat 0), (.ofNat 11)), (2, (.ofNat 0), (.ofNat 11)), (3, (.ofNat 0), (.ofNat 11))], [], [.inl (false, ((.ofNat 1), []))], [], []), 0, 0),
   ((4, [(0, (.ofNat 4), (.ofNat 4)), (1, (.ofNat 0), (.ofNat 11))], [], [.inl (false, ((.ofNat 0), []))], [], []), 0, 0),
   ((4, [(0, (.ofNat 4), (.ofNat 4)), (1, (.ofNat 0), (.ofNat 11)), (2, (.ofNat 0), (.ofNat 11))], [], [.inl (false, ((.ofNat 0), []))], [], []), 0, 0),
   ((4, [(0, (.ofNat 4), (.ofNat 4)), (1, (.ofNat 0), (.ofNat 11)), (2, (.ofNat 0), (.ofNat 11)), (3, (.ofNat 0), (.ofNat 11))], [], [.inl (false, ((.ofNat 1), []))], [], []), 0, 0),
   ((4, [(0, (.ofNat 5), (.ofNat 5)), (1, (.ofNat 0), (.ofNat 11))], [], [.inl (false, ((.ofNat 0), []))], [], []), 0, 0),
   ((4, [(0, (.ofNat 5), (.ofNat 5)), (1, (.ofNat 0), (.ofNat 11)), (2, (.ofNat 0), (.ofNat 11))], [], [.inl (false, ((.ofNat 0), []))], [], []), 0, 0),
   ((4, [(0, (.ofNat 5), (.ofNat 5)), (1, (.ofNat 0), (.ofNat 11)), (2, (.ofNat 0), (.ofNat 11)), (3, (.ofNat 0), (.ofNat 11))], [], [.inl (false, ((.ofNat 1), []))], [], []), 0, 0),
   ((4, [(0, (.ofNat 6), (.ofNat 6)), (1, (.ofNat 0), (.ofNat 11))], [], [.inl (false, ((.ofNat 0), []))], [], []), 0, 0),
   ((4, [(0, (.ofNat 6), (.ofNat 6)), (1, (.ofNat 0), (.ofNat 11)), (2, (.ofNat 0), (.ofNat 11))], [], [.inl (false, ((.ofNat 0), []))], [], []), 0, 0),
   ((4, [(0, (.ofNat 6), (.ofNat 6)), (1, (.ofNat 0), (.ofNat 11)), (2, (.ofNat 0), (.ofNat 11)), (3, (.ofNat 0), (.ofNat 11))], [], [.inl (false, ((.ofNat 1), []))], [], []), 0, 0),
   ((4, [(0, (.ofNat 7), (.ofNat 7)), (1, (.ofNat 0), (.ofNat 11)), (2, (.negSucc 2147483647), (.ofNat 0))], [], [.inl (false, ((.ofNat 0), []))], [], []), 0, 0),
   ((4, [(0, (.ofNat 7), (.ofNat 7)), (1, (.ofNat 0), (.ofNat 11)), (2, (.ofNat 21), (.ofNat 2147483647))], [], [.inl (false, ((.ofNat 0), []))], [], []), 0, 0),
   ((4, [(0, (.ofNat 7), (.ofNat 7)), (1, (.ofNat 0), (.ofNat 11)), (2, (.ofNat 1), (.ofNat 20))], [], [.inl (false, ((.ofNat 1), []))], [], []), 0, 0),
   ((4, [(0, (.ofNat 8), (.ofNat 8)), (1, (.ofNat 0), (.ofNat 11)), (2, (.negSucc 2147483647), (.negSucc 0))], [], [.inl (false, ((.ofNat 0), []))], [], []), 0, 0),
   ((4, [(0, (.ofNat 8), (.ofNat 8)), (1, (.ofNat 0), (.ofNat 11)), (2, (.ofNat 2), (.ofNat 2147483647))], [], [.inl (false, ((.ofNat 0), []))], [], []), 0, 0),
   ((4, [(0, (.ofNat 8), (.ofNat 8)), (1, (.ofNat 0), (.ofNat 11)), (2, (.ofNat 0), (.ofNat 1))], [], [.inl (false, ((.ofNat 1), []))], [], []), 0, 0),
   ((4, [(0, (.ofNat 9), (.ofNat 9)), (1, (.ofNat 0), (.ofNat 11)), (2, (.negSucc 2147483647), (.negSucc 0))], [], [.inl (false, ((.ofNat 0), []))], [], []), 0, 0),
   ((4, [(0, (.ofNat 9), (.ofNat 9)), (1, (.ofNat 0), (.ofNat 11)), (2, (.ofNat 8), (.ofNat 2147483647))], [], [.inl (false, ((.ofNat 0), []))], [], []), 0, 0),
   ((4, [(0, (.ofNat 9), (.ofNat 9)), (1, (.ofNat 0), (.ofNat 11)), (2, (.ofNat 0), (.ofNat 7))], [], [.inl (false, ((.ofNat 1), []))], [], []), 0, 0),
   ((4, [(0, (.ofNat 10), (.ofNat 10)), (1, (.ofNat 0), (.ofNat 11)), (2, (.negSucc 2147483647), (.ofNat 0))], [], [.inl (false, ((.ofNat 0), []))], [], []), 0, 0),
   ((4, [(0, (.ofNat 10), (.ofNat 10)), (1, (.ofNat 0), (.ofNat 11)), (2, (.ofNat 21), (.ofNat 2147483647))], [], [.inl (false, ((.ofNat 0), []))], [], []), 0, 0),
   ((4, [(0, (.ofNat 10), (.ofNat 10)), (1, (.ofNat 0), (.ofNat 11)), (2, (.ofNat 1), (.ofNat 20))], [], [.inl (false, ((.ofNat 1), []))], [], []), 0, 0)])
noncomputable def c16_0_e : List Ct := [c12_0, c17_0]
noncomputable def c16_0_pts : List PE := []
set_option maxRecDepth 100000 in
theorem c16_0_k : enCtF c16_0 c16_0_e (c16_0_pts ++ []) (none) noH 3000 = true := by decide +kernel
set_option maxRecDepth 100000 in
theorem c16_0_v : ValidC PPk c16_0 := ct_ok fpk noH_ok (d := 2) (ext := []) (pts := c16_0_pts) (env := c16_0_e) rfl (List.forall_mem_cons.mpr ⟨⟨c12_0_v, Nat.le_of_ble_eq_true rfl⟩, List.forall_mem_cons.mpr ⟨⟨c17_0_v, Nat.le_of_ble_eq_true rfl⟩, fun _ h => (by cases h)⟩⟩) ext_nil (fun q h => (by cases h)) (enF c16_0_k) (fun _ h => (by cases h))

def zc88 : AC := .inl (2, [.inl (false, ((.ofNat 0), [(3, (.ofNat 1))])), .inr (.inl (some 1)), .inr (.inl (some 2)), .inr (.inl (some 3)), .inr (.inl (some 4))])
def zc89 : AC := .inr (0, .inl [.inr (60, (.negSucc 2147483647), (.ofNat 2147483647))])
def zc90 : AC := .inl (2, [.inl (false, ((.ofNat 0), [(4, (.ofNat 1))])), .inr (.inl (some 1)), .inr (.inl (some 2)), .inr (.inl (some 3)), .inr (.inl (some 4))])
noncomputable def c18_0 : Ct := (18, 1, (4, [(0, (.ofNat 0), (.ofNat 11)), (1, (.negSucc 2147483647), (.ofNat 2147483647)), (2, (.negSucc 2147483647), (.ofNat 2147483647)), (3, (.ofNat 0), (.ofNat 60))], [], [.inr (.inl (some 0)), .inl (false, ((.ofNat 0), [])), .inl (false, ((.ofNat 0), [(0, (.ofNat 1))])), .inl (false, ((.ofNat 0), [(1, (.ofNat 1))])), .inl (false, ((.ofNat 0), [(2, (.ofNat 1))]))], [zc88,
    zc89,
    zc89,
    zc89,
    zc89], [(0, [1, 2, 3, 4], [])]),
  [((5, [(4, (.ofNat 1), (.ofNat 60))], [], [], [zc90,
    zc89,
    zc89,
    zc89,
    zc89], [(0, [1, 2, 3, 4], [])]), 0, 0)])
noncomputable def c18_0_e : List Ct := []
noncomputable def c18_0_pts : List PE := []
set_option maxRecDepth 100000 in
theorem c18_0_k : enCtF c18_0 c18_0_e (c18_0_pts ++ []) (some (3, 0, 61)) ((hOr (hOpen 14 100 0) (hClose 51 100 0)), noM, 0, 2251799813701632, 4) 3000 = true := by decide +kernel
set_option maxRecDepth 100000 in
theorem c18_0_v : ValidC PPk c18_0 := ct_ok fpk ⟨(hOr_ok (hOpen_ok 14 100 0) (hClose_ok 51 100 0)), noM_ok⟩ (d := 0) (ext := []) (pts := c18_0_pts) (env := c18_0_e) rfl (fun _ h => (by cases h)) ext_nil (fun q h => (by cases h; exact Nat.le_of_ble_eq_true rfl)) (enF c18_0_k) (fun _ h => (by cases h))

noncomputable def c18_1 : Ct := (18, 1, (4, [(0, (.ofNat 0), (.ofNat 11)), (1, (.ofNat 0), (.ofNat 11)), (2, (.ofNat 0), (.ofNat 11)), (3, (.ofNat 0), (.ofNat 60))], [], [.inr (.inl (some 0)), .inl (false, ((.ofNat 1), [])), .inl (false, ((.ofNat 0), [(0, (.ofNat 1))])), .inl (false, ((.ofNat 0), [(1, (.ofNat 1))])), .inl (false, ((.ofNat 0), [(2, (.ofNat 1))]))], [zc88,
    zc89,
    zc89,
    zc89,
    zc89], [(0, [1, 2, 3, 4], [])]),
  [((5, [(4, (.ofNat 1), (.ofNat 60))], [], [], [zc90,
    zc89,
    zc89,
    zc89,
    zc89], [(0, [1, 2, 3, 4], [])]), 0, 0)])
noncomputable def c18_1_e : List Ct := []
noncomputable def c18_1_pts : List PE := []
set_option maxRecDepth 100000 in
theorem c18_1_k : enCtF c18_1 c18_1_e (c18_1_pts ++ []) (some (3, 0, 61)) ((hOr (hOpen 14 100 0) (hClose 51 100 0)), noM, 0, 2251799813701632, 4) 3000 = true := by decide +kernel
set_option maxRecDepth 100000 in
theorem c18_1_v : ValidC PPk c18_1 := ct_ok fpk ⟨(hOr_ok (hOpen_ok 14 100 0) (hClose_ok 51 100 0)), noM_ok⟩ (d := 0) (ext := []) (pts := c18_1_pts) (env := c18_1_e) rfl (fun _ h => (by cases h)) ext_nil (fun q h => (by cases h; exact Nat.le_of_ble_eq_true rfl)) (enF c18_1_k) (fun _ h => (by cases h))

noncomputable def c18_2 : Ct := (18, 1, (4, [(0, (.ofNat 0), (.ofNat 11)), (1, (.ofNat 0), (.ofNat 11)), (2, (.ofNat 0), (.ofNat 11)), (3, (.ofNat 0), (.ofNat 60))], [], [.inr (.inl (some 0)), .inl (false, ((.ofNat 2), [])), .inl (false, ((.ofNat 0), [(0, (.ofNat 1))])), .inl (false, ((.ofNat 0), [(1, (.ofNat 1))])), .inl (false, ((.ofNat 0), [(2, (.ofNat 1))]))], [zc88,
    zc89,
    zc89,
    zc89,
    zc89], [(0, [1, 2, 3, 4], [])]),
  [((5, [(4, (.ofNat 1), (.ofNat 60))], [], [], [zc90,
    zc89,
    zc89,
    zc89,
    zc89], [(0, [1, 2, 3, 4], [])]), 0, 0)])
noncomputable def c18_2_e : List Ct := []
noncomputable def c18_2_pts : List PE := []
set_option maxRecDepth 100000 in
theorem c18_2_k : enCtF c18_2 c18_2_e (c18_2_pts ++ []) (some (3, 0, 61)) ((hOr (hOpen 14 100 0) (hClose 51 100 0)), noM, 0, 2251799813701632, 4) 3000 = true := by decide +kernel
set_option maxRecDepth 100000 in
theorem c18_2_v : ValidC PPk c18_2 := ct_ok fpk ⟨(hOr_ok (hOpen_ok 14 100 0) (hClose_ok 51 100 0)), noM_ok⟩ (d := 0) (ext := []) (pts := c18_2_pts) (env := c18_2_e) rfl (fun _ h => (by cases h)) ext_nil (fun q h => (by cases h; exact Nat.le_of_ble_eq_true rfl)) (enF c18_2_k) (fun _ h => (by cases h))

noncomputable def c18_3 : Ct := (18, 1, (4, [(0, (.ofNat 0), (.ofNat 11)), (1, (.ofNat 0), (.ofNat 11)), (2, (.ofNat 0), (.ofNat 11)), (3, (.ofNat 0), (.ofNat 60))], [], [.inr (.inl (some 0)), .inl (false, ((.ofNat 3), [])), .inl (false, ((.ofNat 0), [(0, (.ofNat 1))])), .inl (false, ((.ofNat 0), [(1, (.ofNat 1))])), .inl (false, ((.ofNat 0), [(2, (.ofNat 1))]))], [zc88,
    zc89,
    zc89,
    zc89,
    zc89], [(0, [1, 2, 3, 4], [])]),
  [((5, [(4, (.ofNat 1), (.ofNat 60))], [], [], [zc90,
    zc89,
    zc89,
    zc89,
    zc89], [(0, [1, 2, 3, 4], [])]), 0, 0)])
noncomputable def c18_3_e : List Ct := []
noncomputable def c18_3_pts : List PE := []
set_option maxRecDepth 100000 in
theorem c18_3_k : enCtF c18_3 c18_3_e (c18_3_pts ++ []) (some (3, 0, 61)) ((hOr (hOpen 14 100 0) (hClose 51 100 0)), noM, 0, 2251799813701632, 4) 3000 = true := by decide +kernel
set_option maxRecDepth 100000 in
theorem c18_3_v : ValidC PPk c18_3 := ct_ok fpk ⟨(hOr_ok (hOpen_ok 14 100 0) (hClose_ok 51 100 0)), noM_ok⟩ (d := 0) (ext := []) (pts := c18_3_pts) (env := c18_3_e) rfl (fun _ h => (by cases h)) ext_nil (fun q h => (by cases h; exact Nat.le_of_ble_eq_true rfl)) (enF c18_3_k) (fun _ h => (by cases h))

noncomputable def c18_4 : Ct := (18, 1, (4, [(0, (.ofNat 0), (.ofNat 11)), (1, (.ofNat 0), (.ofNat 11)), (2, (.ofNat 0), (.ofNat 11)), (3, (.ofNat 0), (.ofNat 60))], [], [.inr (.inl (some 0)), .inl (false, ((.ofNat 4), [])), .inl (false, ((.ofNat 0), [(0, (.ofNat 1))])), .inl (false, ((.ofNat 0), [(1, (.ofNat 1))])), .inl (false, ((.ofNat 0), [(2, (.ofNat 1))]))], [zc88,
    zc89,
    zc89,
    zc89,
    zc89], [(0, [1, 2, 3, 4], [])]),
  [((5, [(4, (.ofNat 1), (.ofNat 60))], [], [], [zc90,
    zc89,
    zc89,
    zc89,
    zc89], [(0, [1, 2, 3, 4], [])]), 0, 0)])
noncomputable def c18_4_e : List Ct := []
noncomputable def c18_4_pts : List PE := []
set_option maxRecDepth 100000 in
theorem c18_4_k : enCtF c18_4 c18_4_e (c18_4_pts ++ []) (some (3, 0, 61)) ((hOr (hOpen 14 100 0) (hClose 51 100 0)), noM, 0, 2251799813701632, 4) 3000 = true := by decide +kernel
set_option maxRecDepth 100000 in
theorem c18_4_v : ValidC PPk c18_4 := ct_ok fpk ⟨(hOr_ok (hOpen_ok 14 100 0) (hClose_ok 51 100 0)), noM_ok⟩ (d := 0) (ext := []) (pts := c18_4_pts) (env := c18_4_e) rfl (fun _ h => (by cases h)) ext_nil (fun q h => (by cases h; exact Nat.le_of_ble_eq_true rfl)) (enF c18_4_k) (fun _ h => (by cases h))

noncomputable def c18_5 : Ct := (18, 1, (4, [(0, (.ofNat 0), (.ofNat 11)), (1, (.ofNat 0), (.ofNat 11)), (2, (.ofNat 0), (.ofNat 11)), (3, (.ofNat 0), (.ofNat 60))], [], [.inr (.inl (some 0)), .inl (false, ((.ofNat 5), [])), .inl (false, ((.ofNat 0), [(0, (.ofNat 1))])), .inl (false, ((.ofNat 0), [(1, (.ofNat 1))])), .inl (false, ((.ofNat 0), [(2, (.ofNat 1))]))], [zc88,
    zc89,
    zc89,
    zc89,
    zc89], [(0, [1, 2, 3, 4], [])]),
  [((5, [(4, (.ofNat 1), (.ofNat 60))], [], [], [zc90,
    zc89,
    zc89,
    zc89,
    zc89], [(0, [1, 2, 3, 4], [])]), 0, 0)])
noncomputable def c18_5_e : List Ct := []
noncomputable def c18_5_pts : List PE := []
set_option maxRecDepth 100000 in
theorem c18_5_k : enCtF c18_5 c18_5_e (c18_5_pts ++ []) (some (3, 0, 61)) ((hOr (hOpen 14 100 0) (hClose 51 100 0)), noM, 0, 2251799813701632, 4) 3000 = true := by decide +kernel
set_option maxRecDepth 100000 in
theorem c18_5_v : ValidC PPk c18_5 := ct_ok fpk ⟨(hOr_ok (hOpen_ok 14 100 0) (hClose_ok 51 100 0)), noM_ok⟩ (d := 0) (ext := []) (pts := c18_5_pts) (env := c18_5_e) rfl (fun _ h => (by cases h)) ext_nil (fun q h => (by cases h; exact Nat.le_of_ble_eq_true rfl)) (enF c18_5_k) (fun _ h => (by cases h))

noncomputable def c18_6 : Ct := (18, 1, (4, [(0, (.ofNat 0), (.ofNat 11)), (1, (.ofNat 0), (.ofNat 11)), (2, (.ofNat 0), (.ofNat 11)), (3, (.ofNat 0), (.ofNat 60))], [], [.inr (.inl (some 0)), .inl (false, ((.ofNat 6), [])), .inl (false, ((.ofNat 0), [(0, (.ofNat 1))])), .inl (false, ((.ofNat 0), [(1, (.ofNat 1))])), .inl (false, ((.ofNat 0), [(2, (.ofNat 1))]))], [zc88,
    zc89,
    zc89,
    zc89,
    zc89], [(0, [1, 2, 3, 4], [])]),
  [((5, [(4, (.ofNat 1), (.ofNat 60))], [], [], [zc90,
    zc89,
    zc89,
    zc89,
    zc89], [(0, [1, 2, 3, 4], [])]), 0, 0)])
noncomputable def c18_6_e : List Ct := []
noncomputable def c18_6_pts : List PE := []
set_option maxRecDepth 100000 in
theorem c18_6_k : enCtF c18_6 c18_6_e (c18_6_pts ++ []) (some (3, 0, 61)) ((hOr (hOpen 14 100 0) (hClose 51 100 0)), noM, 0, 2251799813701632, 4) 3000 = true := by decide +kernel
set_option maxRecDepth 100000 in
theorem c18_6_v : ValidC PPk c18_6 := ct_ok fpk ⟨(hOr_ok (hOpen_ok 14 100 0) (hClose_ok 51 100 0)), noM_ok⟩ (d := 0) (ext := []) (pts := c18_6_pts) (env := c18_6_e) rfl (fun _ h => (by cases h)) ext_nil (fun q h => (by cases h; exact Nat.le_of_ble_eq_true rfl)) (enF c18_6_k) (fun _ h => (by cases h))

noncomputable def c18_7 : Ct := (18, 1, (4, [(0, (.ofNat 0), (.ofNat 11)), (1, (.negSucc 2147483647), (.ofNat 2147483647)), (2, (.negSucc 2147483647), (.ofNat 2147483647)), (3, (.ofNat 0), (.ofNat 60))], [], [.inr (.inl (some 0)), .inl (false, ((.ofNat 7), [])), .inl (false, ((.ofNat 0), [(0, (.ofNat 1))])), .inl (false, ((.ofNat 0), [(1, (.ofNat 1))])), .inl (false, ((.ofNat 0), [(2, (.ofNat 1))]))], [zc88,
    zc89,
    zc89,
    zc89,
    zc89], [(0, [1, 2, 3, 4], [])]),
  [((5, [(4, (.ofNat 1), (.ofNat 60))], [], [], [zc90,
    zc89,
    zc89,
    zc89,
    zc89], [(0, [1, 2, 3, 4], [])]), 0, 0)])
noncomputable def c18_7_e : List Ct := []
noncomputable def c18_7_pts : List PE := []
set_option maxRecDepth 100000 in
theorem c18_7_k : enCtF c18_7 c18_7_e (c18_7_pts ++ []) (some (3, 0, 61)) ((hOr (hOpen 14 100 0) (hClose 51 100 0)), noM, 0, 2251799813701632, 4) 3000 = true := by decide +kernel
set_option maxRecDepth 100000 in
theorem c18_7_v : ValidC PPk c18_7 := ct_ok fpk ⟨(hOr_ok (hOpen_ok 14 100 0) (hClose_ok 51 100 0)), noM_ok⟩ (d := 0) (ext := []) (pts := c18_7_pts) (env := c18_7_e) rfl (fun _ h => (by cases h)) ext_nil (fun q h => (by cases h; exact Nat.le_of_ble_eq_true rfl)) (enF c18_7_k) (fun _ h => (by cases h))

noncomputable def c18_8 : Ct := (18, 1, (4, [(0, (.ofNat 0), (.ofNat 11)), (1, (.ofNat 0), (.ofNat 1)), (2, (.negSucc 2147483647), (.ofNat 2147483647)), (3, (.ofNat 0), (.ofNat 60))], [], [.inr (.inl (some 0)), .inl (false, ((.ofNat 8), [])), .inl (false, ((.ofNat 0), [(0, (.ofNat 1))])), .inl (false, ((.ofNat 0), [(1, (.ofNat 1))])), .inl (false, ((.ofNat 0), [(2, (.ofNat 1))]))], [zc88,
    zc89,
    zc89,
    zc89,
    zc89], [(0, [1, 2, 3, 4], [])]),
  [((5, [(4, (.ofNat 1), (.ofNat 60))], [], [], [zc90,
    zc89,
    zc89,
    zc89,
    zc89], [(0, [1, 2, 3, 4], [])]), 0, 0)])
noncomputable def c18_8_e : List Ct := []
noncomputable def c18_8_pts : List PE := []
set_option maxRecDepth 100000 in
theorem c18_8_k : enCtF c18_8 c18_8_e (c18_8_pts ++ []) (some (3, 0, 61)) ((hOr (hOpen 14 100 0) (hClose 51 100 0)), noM, 0, 2251799813701632, 4) 3000 = true := by decide +kernel
set_option maxRecDepth 100000 in
theorem c18_8_v : ValidC PPk c18_8 := ct_ok fpk ⟨(hOr_ok (hOpen_ok 14 100 0) (hClose_ok 51 100 0)), noM_ok⟩ (d := 0) (ext := []) (pts := c18_8_pts) (env := c18_8_e) rfl (fun _ h => (by cases h)) ext_nil (fun q h => (by cases h; exact Nat.le_of_ble_eq_true rfl)) (enF c18_8_k) (fun _ h => (by cases h))

noncomputable def c18_9 : Ct := (18, 1, (4, [(0, (.ofNat 0), (.ofNat 11)), (1, (.ofNat 0), (.ofNat 7)), (2, (.negSucc 2147483647), (.ofNat 2147483647)), (3, (.ofNat 0), (.ofNat 60))], [], [.inr (.inl (some 0)), .inl (false, ((.ofNat 9), [])), .inl (false, ((.ofNat 0), [(0, (.ofNat 1))])), .inl (false, ((.ofNat 0), [(1, (.ofNat 1))])), .inl (false, ((.ofNat 0), [(2, (.ofNat 1))]))], [zc88,
    zc89,
    zc89,
    zc89,
    zc89], [(0, [1, 2, 3, 4], [])]),
  [((5, [(4, (.ofNat 1), (.ofNat 60))], [], [], [zc90,
    zc89,
    zc89,
    zc89,
    zc89], [(0, [1, 2, 3, 4], [])]), 0, 0)])
noncomputable def c18_9_e : List Ct := []
noncomputable def c18_9_pts : List PE := []
set_option maxRecDepth 100000 in
theorem c18_9_k : enCtF c18_9 c18_9_e (c18_9_pts ++ []) (some (3, 0, 61)) ((hOr (hOpen 14 100 0) (hClose 51 100 0)), noM, 0, 2251799813701632, 4) 3000 = true := by decide +kernel
set_option maxRecDepth 100000 in
theorem c18_9_v : ValidC PPk c18_9 := ct_ok fpk ⟨(hOr_ok (hOpen_ok 14 100 0) (hClose_ok 51 100 0)), noM_ok⟩ (d := 0) (ext := []) (pts := c18_9_pts) (env := c18_9_e) rfl (fun _ h => (by cases h)) ext_nil (fun q h => (by cases h; exact Nat.le_of_ble_eq_true rfl)) (enF c18_9_k) (fun _ h => (by cases h))

noncomputable def c18_10 : Ct := (18, 1, (4, [(0, (.ofNat 0), (.ofNat 11)), (1, (.negSucc 2147483647), (.ofNat 2147483647)), (2, (.negSucc 2147483647), (.ofNat 2147483647)), (3, (.ofNat 0), (.ofNat 60))], [], [.inr (.inl (some 0)), .inl (false, ((.ofNat 10), [])), .inl (false, ((.ofNat 0), [(0, (.ofNat 1))])), .inl (false, ((.ofNat 0), [(1, (.ofNat 1))])), .inl (false, ((.ofNat 0), [(2, (.ofNat 1))]))], [zc88,
    zc89,
    zc89,
    zc89,
    zc89], [(0, [1, 2, 3, 4], [])]),
  [((5, [(4, (.ofNat 1), (.ofNat 60))], [], [], [zc90,
    zc89,
    zc89,
    zc89,
    zc89], [(0, [1, 2, 3, 4], [])]), 0, 0)])
noncomputable def c18_10_e : List Ct := []
noncomputable def c18_10_pts : List PE := []
set_option maxRecDepth 100000 in
theorem c18_10_k : enCtF c18_10 c18_10_e (c18_10_pts ++ []) (some (3, 0, 61)) ((hOr (hOpen 14 100 0) (hClose 51 100 0)), noM, 0, 2251799813701632, 4) 3000 = true := by decide +kernel
set_option maxRecDepth 100000 in
theorem c18_10_v : ValidC PPk c18_10 := ct_ok fpk ⟨(hOr_ok (hOpen_ok 14 100 0) (hClose_ok 51 100 0)), noM_ok⟩ (d := 0) (ext := []) (pts := c18_10_pts) (env := c18_10_e) rfl (fun _ h => (by cases h)) ext_nil (fun q h => (by cases h; exact Nat.le_of_ble_eq_true rfl)) (enF c18_10_k) (fun _ h => (by cases h))

def zc91 : AC := .inl (1, [.inl (false, ((.ofNat 0), [(4, (.ofNat 1))])), .inr (.inl (some 2)), .inr (.inl (some 13)), .inr (.inl (some 19)), .inr (.inl (some 20)), .inl (false, ((.ofNat 0), [(5, (.ofNat 1))])), .inl (false, ((.ofNat 0), [(6, (.ofNat 1))])), .inr (.inl (some 21)), .inl (false, ((.ofNat 0), [(7, (.ofNat 1))])), .inl (false, ((.ofNat 0), [(8, (.ofNat 1))])), .inr (.inl (some 26)), .inr (.inl (some 27)), .inr (.inl (some 28)), .inr (.inl (some 32)), .inl (false, ((.ofNat 0), [(9, (.ofNat 1))])), .inr (.inl (some 38)), .inr (.inl (some 39)), .inr (.inl (some 40))])
def zc92 : AC := .inl (2, [.inl (false, ((.ofNat 0), [(10, (.ofNat 1))])), .inr (.inl (some 4)), .inr (.inl (some 5)), .inr (.inl (some 6)), .inr (.inl (some 7))])
def zc93 : AC := .inl (2, [.inl (false, ((.ofNat 0), [(11, (.ofNat 1))])), .inr (.inl (some 9)), .inr (.inl (some 10)), .inr (.inl (some 11)), .inr (.inl (some 12))])
def zc94 : AC := .inl (3, [.inr (.inl (some 14)), .inr (.inl (some 15)), .inl (false, ((.ofNat 0), [(12, (.ofNat 1))])), .inr (.inl (some 16)), .inr (.inl (some 17)), .inr (.inl (some 18))])
def zc95 : AC := .inr (100, .inl [.inl ((.ofNat 0), [(17, (.ofNat 1))])])
def zc96 : AC := .inl (4, [.inl (false, ((.ofNat 0), [(20, (.ofNat 1))])), .inr (.inl (some 22)), .inr (.inl (some 23)), .inr (.inl (some 24)), .inr (.inl (some 25))])
def zc97 : AC := .inr (100, .inl [.inl ((.ofNat 0), [(25, (.ofNat 1))])])
def zc98 : AC := .inl (5, [.inl (false, ((.ofNat 0), [(27, (.ofNat 1))])), .inr (.inl (some 29)), .inl (false, ((.ofNat 0), [(28, (.ofNat 1))])), .inl (false, ((.ofNat 0), [(29, (.ofNat 1))])), .inl (false, ((.ofNat 0), [(30, (.ofNat 1))])), .inr (.inl (some 30)), .inr (.inl (some 31))])
def zc99 : AC := .inr (102, .inl [.inl ((.ofNat 0), [(31, (.ofNat 1))])])
def zc100 : AC := .inl (6, [.inl (false, ((.ofNat 0), [(33, (.ofNat 1))])), .inr (.inl (some 33)), .inr (.inl (some 34)), .inr (.inl (some 35)), .inr (.inl (some 36)), .inr (.inl (some 37))])
def zc101 : AC := .inr (100, .inl [.inl ((.ofNat 0), [(36, (.ofNat 1))])])
def zc102 : AC := .inr (100, .inl [.inl ((.ofNat 0), [(38, (.ofNat 1))])])
def zc103 : AC := .inl (7, [.inr (.inl (some 42)), .inl (false, ((.ofNat 0), [(42, (.ofNat 1))])), .inr (.inl (some 51)), .inr (.inl (some 55)), .inr (.inl (some 56)), .inl (false, ((.ofNat 0), [(43, (.ofNat 1))])), .inl (false, ((.ofNat 0), [(44, (.ofNat 1))])), .inl (false, ((.ofNat 0), [(45, (.ofNat 1))])), .inl (false, ((.ofNat 0), [(46, (.ofNat 1))])), .inl (false, ((.ofNat 0), [(47, (.ofNat 1))])), .inl (false, ((.ofNat 0), [(48, (.ofNat 1))])), .inl (false, ((.ofNat 0), [(49, (.ofNat 1))])), .inl (false, ((.ofNat 0), [(50, (.ofNat 1))])), .inl (false, ((.ofNat 0), [(51, (.ofNat 1))])), .inl (false, ((.ofNat 0), [(52, (.ofNat 1))])), .inl (false, ((.ofNat 0), [(53, (.ofNat 1))])), .inl (false, ((.ofNat 0), [(54, (.ofNat 1))]))])
def zc104 : AC := .inl (8, [.inr (.inl (some 44)), .inl (false, ((.ofNat 0), [(55, (.ofNat 1))])), .inl (false, ((.ofNat 0), [(56, (.ofNat 1))])), .inl (false, ((.ofNat 0), [(57, (.ofNat 1))])), .inl (false, ((.ofNat 0), [(58, (.ofNat 1))]))])
def zc105 : AC := .inr (100, .inl [.inl ((.ofNat 0), [(59, (.ofNat 1))])])
def zc106 : AC := .inl (8, [.inr (.inl (some 46)), .inl (false, ((.ofNat 0), [(60, (.ofNat 1))])), .inl (false, ((.ofNat 0), [(61, (.ofNat 1))])), .inl (false, ((.ofNat 0), [(62, (.ofNat 1))])), .inl (false, ((.ofNat 0), [(63, (.ofNat 1))]))])
def zc107 : AC := .inr (100, .inl [.inl ((.ofNat 0), [(64, (.ofNat 1))])])
def zc108 : AC := .inl (8, [.inr (.inl (some 48)), .inl (false, ((.ofNat 0), [(65, (.ofNat 1))])), .inl (false, ((.ofNat 0), [(66, (.ofNat 1))])), .inl (false, ((.ofNat 0), [(67, (.ofNat 1))])), .inl (false, ((.ofNat 0), [(68, (.ofNat 1))]))])
def zc109 : AC := .inr (100, .inl [.inl ((.ofNat 0), [(69, (.ofNat 1))])])
def zc110 : AC := .inl (8, [.inr (.inl (some 50)), .inl (false, ((.ofNat 0), [(70, (.ofNat 1))])), .inl (false, ((.ofNat 0), [(71, (.ofNat 1))])), .inl (false, ((.ofNat 0), [(72, (.ofNat 1))])), .inl (false, ((.ofNat 0), [(73, (.ofNat 1))]))])
def zc111 : AC := .inr (100, .inl [.inl ((.ofNat 0), [(74, (.ofNat 1))])])
def zc112 : AC := .inl (9, [.inr (.inl (some 52)), .inr (.inl (some 53)), .inr (.inl (some 54)), .inl (false, ((.ofNat 0), [(75, (.ofNat 1))]))])
def zc113 : AC := .inr (100, .inl [.inl ((.ofNat 0), [(76, (.ofNat 1))])])
def zc114 : AC := .inl (2, [.inl (false, ((.ofNat 0), [(82, (.ofNat 1))])), .inr (.inl (some 4)), .inr (.inl (some 5)), .inr (.inl (some 6)), .inr (.inl (some 7))])
def zc115 : AC := .inl (2, [.inl (false, ((.ofNat 0), [(83, (.ofNat 1))])), .inr (.inl (some 9)), .inr (.inl (some 10)), .inr (.inl (some 11)), .inr (.inl (some 12))])
noncomputable def c15_0 : Ct := (15, 4, (81, [(0, (.negSucc 2147483647), (.ofNat 2147483647)), (1, (.negSucc 2147483647), (.ofNat 2147483647)), (2, (.negSucc 2147483647), (.ofNat 2147483647)), (3, (.negSucc 2147483647), (.ofNat 2147483647)), (4, (.ofNat 1), (.ofNat 4)), (5, (.negSucc 2147483647), (.ofNat 2147483647)), (6, (.negSucc 2147483647), (.ofNat 2147483647)), (7, (.ofNat 1), (.ofNat 1000)), (8, (.ofNat 0), (.ofNat 50)), (9, (.ofNat 0), (.ofNat 10)), (10, (.ofNat 0), (.ofNat 60)), (11, (.ofNat 0), (.ofNat 60)), (12, (.ofNat 0), (.ofNat 8)), (20, (.ofNat 0), (.ofNat 6)), (27, (.ofNat 0), (.ofNat 60)), (28, (.negSucc 2147483647), (.ofNat 2147483647)), (29, (.ofNat 0), (.ofNat 60)), (30, (.ofNat 0), (.ofNat 60)), (33, (.ofNat 0), (.ofNat 8)), (42, (.negSucc 2147483647), (.ofNat 2147483647)), (43, (.negSucc 2147483647), (.ofNat 2147483647)), (44, (.negSucc 2147483647), (.ofNat 2147483647)), (45, (.negSucc 2147483647), (.ofNat 2147483647)), (46, (.negSucc 2147483647), (.ofNat 2147483647)), (47, (.negSucc 2147483647), (.ofNat 2147483647)), (48, (.ofNat 0), (.ofNat 3)), (49, (.negSucc 2147483647), (.ofNat 2147483647)), (50, (.negSucc 2147483647), (.ofNat 2147483647)), (51, (.negSucc 2147483647), (.ofNat 2147483647)), (52, (.negSucc 2147483647), (.ofNat 2147483647)), (53, (.ofNat 0), (.ofNat 1)), (54, (.negSucc 2147483647), (.ofNat 2147483647)), (55, (.negSucc 2147483647), (.ofNat 2147483647)), (56, (.negSucc 2147483647), (.ofNat 2147483647)), (57, (.negSucc 2147483647), (.ofNat 2147483647)), (58, (.negSucc 2147483647), (.ofNat 2147483647)), (60, (.negSucc 2147483647), (.ofNat 2147483647)), (61, (.negSucc 2147483647), (.ofNat 2147483647)), (62, (.negSucc 2147483647), (.ofNat 2147483647)), (63, (.negSucc 2147483647), (.ofNat 2147483647)), (65, (.negSucc 2147483647), (.ofNat 2147483647)), (66, (.negSucc 2147483647), (.ofNat 2147483647)), (67, (.negSucc 2147483647), (.ofNat 2147483647)), (68, (.negSucc 2147483647), (.ofNat 2147483647)), (70, (.negSucc 2147483647), (.ofNat 2147483647)), (71, (.negSucc 2147483647), (.ofNat 2147483647)), (72, (.negSucc 2147483647), (.ofNat 2147483647)), (73, (.negSucc 2147483647), (.ofNat 2147483647)), (75, (.negSucc 2147483647), (.ofNat 2147483647))], [], [.inr (.inl (some 0)), .inl (false, ((.ofNat 0), [(0, (.ofNat 1))])), .inl (false, ((.ofNat 0), [(1, (.ofNat 1))])), .inl (false, ((.ofNat 0), [(2, (.ofNat 1))])), .inl (false, ((.ofNat 0), [(3, (.ofNat 1))]))], [zc21,
    zc91,
    .inr (4, .inr (.inr [some 3, some 8])),
    zc92,
    zc89,
    zc89,
    zc89,
    zc89,
    zc93,
    zc89,
    zc89,
    zc89,
    zc89,
    zc94,
    zc46,
    zc47,
    zc48,
    zc49,
    zc95,
    zc51,
    zc52,
    zc96,
    zc54,
    zc55,
    zc56,
    zc57,
    zc97,
    zc59,
    zc98,
    zc99,
    zc31,
    .inr (1, .inr (.inl 60)),
    zc100,
    zc33,
    zc34,
    zc101,
    zc66,
    zc102,
    zc68,
    zc69,
    zc70,
    zc103,
    zc77,
    zc104,
    zc105,
    zc106,
    zc107,
    zc108,
    zc109,
    zc110,
    zc111,
    zc112,
    zc113,
    zc83,
    zc84,
    zc85,
    zc86,
    zc22,
    .inr (1, .inr (.inl 6)),
    .inr (1, .inr (.inl 4)),
    .inr (6, .inr (.inr [none, none])),
    .inr (7, .inr (.inr [none, none]))], [(0, [4, 5, 6, 7], []), (0, [9, 10, 11, 12], [])]),
  [((84, [(81, (.negSucc 3), (.ofNat 59)), (82, (.ofNat 0), (.ofNat 60)), (83, (.ofNat 0), (.ofNat 60))], [], [.inl (false, ((.ofNat 0), [(81, (.ofNat 1))]))], [zc21,
    zc91,
    .inr (4, .inr (.inr [some 3, some 8])),
    zc114,
    zc89,
    zc89,
    zc89,
    zc89,
    zc115,
    zc89,
    zc89,
    zc89,
    zc89,
    zc94,
    zc46,
    zc47,
    zc48,
    zc49,
    zc95,
    zc51,
    zc52,
    zc96,
    zc54,
    zc55,
    zc56,
    zc57,
    zc97,
    zc59,
    zc98,
    zc99,
    zc31,
    .inr (1, .inr (.inl 60)),
    zc100,
    zc33,
    zc34,
    zc101,
    zc66,
    zc102,
    zc68,
    zc69,
    zc70,
    zc103,
    zc77,
    zc104,
    zc105,
    zc106,
    zc107,
    zc108,
    zc109,
    zc110,
    zc111,
    zc112,
    zc113,
    zc83,
    zc84,
    zc85,
    zc86,
    zc22,
    .inr (1, .inr (.inl 6)),
    .inr (1, .inr (.inl 4)),
    .inr (6, .inr (.inr [none, none])),
    .inr (7, .inr (.inr [none, none]))], [(0, [4, 5, 6, 7], []), (0, [9, 10, 11, 12], [])]), 0, 0)])
noncomputable def c15_0_e : List Ct := [c16_0, c18_0, c18_1, c18_2, c18_3, c18_4, c18_5, c18_6, c18_7, c18_8, c18_9, c18_10]
noncomputable def c15_0_pts : List PE := []
set_option maxRecDepth 100000 in
theorem c15_0_k : enCtF c15_0 c15_0_e (c15_0_pts ++ []) (none) noH 3000 = true := by decide +kernel
set_option maxRecDepth 100000 in
theorem c15_0_v : ValidC PPk c15_0 := ct_ok fpk noH_ok (d := 3) (ext := []) (pts := c15_0_pts) (env := c15_0_e) rfl (List.forall_mem_cons.mpr ⟨⟨c16_0_v, Nat.le_of_ble_eq_true rfl⟩, List.forall_mem_cons.mpr ⟨⟨c18_0_v, Nat.le_of_ble_eq_true rfl⟩, List.forall_mem_cons.mpr ⟨⟨c18_1_v, Nat.le_of_ble_eq_true rfl⟩, List.forall_mem_cons.mpr ⟨⟨c18_2_v, Nat.le_of_ble_eq_true rfl⟩, List.forall_mem_cons.mpr ⟨⟨c18_3_v, Nat.le_of_ble_eq_true rfl⟩, List.forall_mem_cons.mpr ⟨⟨c18_4_v, Nat.le_of_ble_eq_true rfl⟩, List.forall_mem_cons.mpr ⟨⟨c18_5_v, Nat.le_of_ble_eq_true rfl⟩, List.forall_mem_cons.mpr ⟨⟨c18_6_v, Nat.le_of_ble_eq_true rfl⟩, List.forall_mem_cons.mpr ⟨⟨c18_7_v, Nat.le_of_ble_eq_true rfl⟩, List.forall_mem_cons.mpr ⟨⟨c18_8_v, Nat.le_of_ble_eq_true rfl⟩, List.forall_mem_cons.mpr ⟨⟨c18_9_v, Nat.le_of_ble_eq_true rfl⟩, List.forall_mem_cons.mpr ⟨⟨c18_10_v, Nat.le_of_ble_eq_true rfl⟩, fun _ h => (by cases h)⟩⟩⟩⟩⟩⟩⟩⟩⟩⟩⟩⟩) ext_nil (fun q h => (by cases h)) (enF c15_0_k) (fun _ h => (by cases h))

def zc116 : AC := .inl (1, [.inl (false, ((.ofNat 0), [(3, (.ofNat 1))])), .inr (.inl (some 2)), .inr (.inl (some 13)), .inr (.inl (some 19)), .inr (.inl (some 20)), .inl (false, ((.ofNat 0), [(4, (.ofNat 1))])), .inl (false, ((.ofNat 0), [(5, (.ofNat 1))])), .inr (.inl (some 21)), .inl (false, ((.ofNat 0), [(6, (.ofNat 1))])), .inl (false, ((.ofNat 0), [(7, (.ofNat 1))])), .inr (.inl (some 26)), .inr (.inl (some 27)), .inr (.inl (some 28)), .inr (.inl (some 32)), .inl (false, ((.ofNat 0), [(8, (.ofNat 1))])), .inr (.inl (some 38)), .inr (.inl (some 39)), .inr (.inl (some 40))])
def zc117 : AC := .inl (2, [.inl (false, ((.ofNat 0), [(9, (.ofNat 1))])), .inr (.inl (some 4)), .inr (.inl (some 5)), .inr (.inl (some 6)), .inr (.inl (some 7))])
def zc118 : AC := .inr (100, .inl [.inl ((.ofNat 0), [(12, (.ofNat 1))])])
def zc119 : AC := .inl (2, [.inl (false, ((.ofNat 0), [(14, (.ofNat 1))])), .inr (.inl (some 9)), .inr (.inl (some 10)), .inr (.inl (some 11)), .inr (.inl (some 12))])
def zc120 : AC := .inl (3, [.inr (.inl (some 14)), .inr (.inl (some 15)), .inl (false, ((.ofNat 0), [(19, (.ofNat 1))])), .inr (.inl (some 16)), .inr (.inl (some 17)), .inr (.inl (some 18))])
def zc121 : AC := .inr (0, .inl [.inr (6, (.ofNat 0), (.ofNat 60))])
def zc122 : AC := .inl (8, [.inr (.inl (some 46)), .inl (false, ((.ofNat 0), [(65, (.ofNat 1))])), .inl (false, ((.ofNat 0), [(66, (.ofNat 1))])), .inl (false, ((.ofNat 0), [(67, (.ofNat 1))])), .inl (false, ((.ofNat 0), [(68, (.ofNat 1))]))])
def zc123 : AC := .inl (8, [.inr (.inl (some 48)), .inl (false, ((.ofNat 0), [(70, (.ofNat 1))])), .inl (false, ((.ofNat 0), [(71, (.ofNat 1))])), .inl (false, ((.ofNat 0), [(72, (.ofNat 1))])), .inl (false, ((.ofNat 0), [(73, (.ofNat 1))]))])
def zc124 : AC := .inl (8, [.inr (.inl (some 50)), .inl (false, ((.ofNat 0), [(75, (.ofNat 1))])), .inl (false, ((.ofNat 0), [(76, (.ofNat 1))])), .inl (false, ((.ofNat 0), [(77, (.ofNat 1))])), .inl (false, ((.ofNat 0), [(78, (.ofNat 1))]))])
def zc125 : AC := .inl (9, [.inr (.inl (some 52)), .inr (.inl (some 53)), .inr (.inl (some 54)), .inl (false, ((.ofNat 0), [(80, (.ofNat 1))]))])
def zc126 : AC := .inr (100, .inl [.inl ((.ofNat 0), [(82, (.ofNat 1))])])
def zc127 : AC := .inr (100, .inl [.inl ((.ofNat 0), [(83, (.ofNat 1))])])
def zc128 : AC := .inr (100, .inl [.inl ((.ofNat 0), [(84, (.ofNat 1))])])
def zc129 : AC := .inr (100, .inl [.inl ((.ofNat 0), [(85, (.ofNat 1))])])
noncomputable def c19_0 : Ct := (19, 2, (86, [(0, (.negSucc 2147483647), (.ofNat 2147483647)), (1, (.negSucc 2147483647), (.ofNat 2147483647)), (2, (.negSucc 2147483647), (.ofNat 2147483647)), (3, (.ofNat 1), (.ofNat 4)), (4, (.negSucc 2147483647), (.ofNat 2147483647)), (5, (.negSucc 2147483647), (.ofNat 2147483647)), (6, (.ofNat 1), (.ofNat 1000)), (7, (.ofNat 0), (.ofNat 50)), (8, (.ofNat 0), (.ofNat 10)), (9, (.ofNat 0), (.ofNat 60)), (14, (.ofNat 0), (.ofNat 60)), (19, (.ofNat 0), (.ofNat 8)), (25, (.ofNat 0), (.ofNat 6)), (32, (.ofNat 0), (.ofNat 60)), (33, (.negSucc 2147483647), (.ofNat 2147483647)), (34, (.ofNat 0), (.ofNat 60)), (35, (.ofNat 0), (.ofNat 60)), (38, (.ofNat 0), (.ofNat 8)), (47, (.negSucc 2147483647), (.ofNat 2147483647)), (48, (.negSucc 2147483647), (.ofNat 2147483647)), (49, (.negSucc 2147483647), (.ofNat 2147483647)), (50, (.negSucc 2147483647), (.ofNat 2147483647)), (51, (.negSucc 2147483647), (.ofNat 2147483647)), (52, (.negSucc 2147483647), (.ofNat 2147483647)), (53, (.ofNat 0), (.ofNat 3)), (54, (.negSucc 2147483647), (.ofNat 2147483647)), (55, (.negSucc 2147483647), (.ofNat 2147483647)), (56, (.negSucc 2147483647), (.ofNat 2147483647)), (57, (.negSucc 2147483647), (.ofNat 2147483647)), (58, (.ofNat 0), (.ofNat 1)), (59, (.negSucc 2147483647), (.ofNat 2147483647)), (60, (.negSucc 2147483647), (.ofNat 2147483647)), (61, (.negSucc 2147483647), (.ofNat 2147483647)), (62, (.negSucc 2147483647), (.ofNat 2147483647)), (63, (.negSucc 2147483647), (.ofNat 2147483647)), (65, (.negSucc 2147483647), (.ofNat 2147483647)), (66, (.negSucc 2147483647), (.ofNat 2147483647)), (67, (.negSucc 2147483647), (.ofNat 2147483647)), (68, (.negSucc 2147483647), (.ofNat 2147483647)), (70, (.negSucc 2147483647), (.ofNat 2147483647)), (71, (.negSucc 2147483647), (.ofNat 2147483647)), (72, (.negSucc 2147483647), (.ofNat 2147483647)), (73, (.negSucc 2147483647), (.ofNat 2147483647)), (75, (.negSucc 2147483647), (.ofNat 2147483647)), (76, (.negSucc 2147483647), (.ofNat 2147483647)), (77, (.negSucc 2147483647), (.ofNat 2147483647)), (78, (.negSucc 2147483647), (.ofNat 2147483647)), (80, (.negSucc 2147483647), (.ofNat 2147483647))], [], [.inr (.inl (some 0)), .inl (false, ((.ofNat 0), [(0, (.ofNat 1))])), .inl (false, ((.ofNat 0), [(1, (.ofNat 1))])), .inl (false, ((.ofNat 0), [(2, (.ofNat 1))]))], [zc21,
    zc116,
    .inr (4, .inr (.inr [some 3, some 8])),
    zc117,
    zc43,
    zc44,
    zc118,
    zc46,
    zc119,
    zc48,
    zc49,
    zc95,
    zc51,
    zc120,
    zc121,
    zc121,
    zc53,
    zc54,
    zc55,
    zc56,
    zc57,
    zc58,
    zc59,
    zc60,
    zc61,
    zc62,
    zc63,
    zc30,
    zc64,
    zc65,
    zc66,
    .inr (1, .inr (.inl 60)),
    zc67,
    zc68,
    zc69,
    zc70,
    zc71,
    zc72,
    zc73,
    zc74,
    zc75,
    zc76,
    zc77,
    zc78,
    zc107,
    zc122,
    zc109,
    zc123,
    zc111,
    zc124,
    zc85,
    zc125,
    zc87,
    zc126,
    zc127,
    zc128,
    zc129,
    zc22,
    .inr (1, .inr (.inl 6)),
    .inr (1, .inr (.inl 4)),
    .inr (6, .inr (.inr [none, none])),
    .inr (7, .inr (.inr [none, none]))], [(0, [4, 5, 6, 7], []), (0, [9, 10, 11, 12], [])]),
  [((87, [(86, (.negSucc 1), (.ofNat 1))], [], [.inl (false, ((.ofNat 0), [(86, (.ofNat 1))]))], [zc21,
    zc116,
    .inr (4, .inr (.inr [some 3, some 8])),
    zc117,
    zc43,
    zc44,
    zc118,
    zc46,
    zc119,
    zc48,
    zc49,
    zc95,
    zc51,
    zc120,
    zc121,
    zc121,
    zc53,
    zc54,
    zc55,
    zc56,
    zc57,
    zc58,
    zc59,
    zc60,
    zc61,
    zc62,
    zc63,
    zc30,
    zc64,
    zc65,
    zc66,
    .inr (1, .inr (.inl 60)),
    zc67,
    zc68,
    zc69,
    zc70,
    zc71,
    zc72,
    zc73,
    zc74,
    zc75,
    zc76,
    zc77,
    zc78,
    zc107,
    zc122,
    zc109,
    zc123,
    zc111,
    zc124,
    zc85,
    zc125,
    zc87,
    zc126,
    zc127,
    zc128,
    zc129,
    zc22,
    .inr (1, .inr (.inl 6)),
    .inr (1, .inr (.inl 4)),
    .inr (6, .inr (.inr [none, none])),
    .inr (7, .inr (.inr [none, none]))], [(0, [4, 5, 6, 7], []), (0, [9, 10, 11, 12], [])]), 0, 0)])
noncomputable def c19_0_e : List Ct := [c12_0]
noncomputable def c19_0_pts : List PE := []
set_option maxRecDepth 100000 in
theorem c19_0_k : enCtF c19_0 c19_0_e (c19_0_pts ++ []) (none) noH 3000 = true := by decide +kernel
set_option maxRecDepth 100000 in
theorem c19_0_v : ValidC PPk c19_0 := ct_ok fpk noH_ok (d := 1) (ext := []) (pts := c19_0_pts) (env := c19_0_e) rfl (List.forall_mem_cons.mpr ⟨⟨c12_0_v, Nat.le_of_ble_eq_true rfl⟩, fun _ h => (by cases h)⟩) ext_nil (fun q h => (by cases h)) (enF c19_0_k) (fun _ h => (by cases h))

def zc130 : AC := .inl (3, [.inr (.inl (some 1)), .inr (.inl (some 2)), .inl (false, ((.ofNat 0), [(2, (.ofNat 1))])), .inr (.inl (some 3)), .inr (.inl (some 4)), .inr (.inl (some 5))])
def zc131 : AC := .inr (100, .inl [.inl ((.ofNat 0), [(3, (.ofNat 1))])])
def zc132 : AC := .inr (100, .inl [.inl ((.ofNat 0), [(4, (.ofNat 1))])])
def zc133 : AC := .inr (100, .inl [.inl ((.ofNat 0), [(5, (.ofNat 1))])])
def zc134 : AC := .inr (0, .inl [.inr (8, (.ofNat 0), (.ofNat 39))])
def zc135 : AC := .inr (0, .inl [.inr (8, (.ofNat 0), (.ofNat 40))])
noncomputable def c21_0 : Ct := (21, 1, (6, [(0, (.negSucc 2147483647), (.ofNat 2147483647)), (1, (.negSucc 2147483647), (.ofNat 2147483647)), (2, (.ofNat 0), (.ofNat 8))], [], [.inr (.inl (some 0)), .inl (false, ((.ofNat 0), [(0, (.ofNat 1))])), .inl (false, ((.ofNat 0), [(1, (.ofNat 1))]))], [zc130,
    zc131,
    zc132,
    zc133,
    zc134,
    zc135], []),
  [((7, [(6, (.ofNat 0), (.ofNat 1))], [], [.inl (false, ((.ofNat 0), [(6, (.ofNat 1))]))], [zc130,
    zc131,
    zc132,
    zc133,
    zc134,
    zc135], []), 0, 0)])
noncomputable def c21_0_e : List Ct := []
noncomputable def c21_0_p0 : PE := (12, [0, 1, 2, 3], (7, [(0, (.negSucc 2147483647), (.ofNat 2147483647)), (1, (.negSucc 2147483647), (.ofNat 2147483647)), (2, (.ofNat 0), (.ofNat 8)), (6, (.ofNat 0), (.ofNat 8))], [], [.inr (.inl (some 0)), .inl (false, ((.ofNat 0), [(0, (.ofNat 1))])), .inl (false, ((.ofNat 0), [(1, (.ofNat 1))])), .inl (false, ((.ofNat 0), [(6, (.ofNat 1))]))], [zc130,
    zc131,
    zc132,
    zc133,
    zc134,
    zc135], []), symsL 6 0, some ((.ofNat 17), [(6, (.negSucc 0))]), 0, 0)
noncomputable def c21_0_pts : List PE := [c21_0_p0]
set_option maxRecDepth 100000 in
theorem c21_0_k : enCtF c21_0 c21_0_e (c21_0_pts ++ []) (none) (noF, noM, 4096, 0, 6) 3000 = true := by decide +kernel
set_option maxRecDepth 100000 in
theorem c21_0_k0 : ptCtF c21_0 c21_0_e (c21_0_pts ++ []) (noF, noM, 4096, 0, 6) 3000 c21_0_p0 = true := by decide +kernel
set_option maxRecDepth 100000 in
theorem c21_0_v : ValidC PPk c21_0 := ct_ok fpk ⟨noF_ok, noM_ok⟩ (d := 0) (ext := []) (pts := c21_0_pts) (env := c21_0_e) rfl (fun _ h => (by cases h)) ext_nil (fun q h => (by cases h)) (enF c21_0_k) (List.forall_mem_cons.mpr ⟨ptF c21_0_k0, fun _ h => (by cases h)⟩)

def zc136 : AC := .inl (3, [.inr (.inl (some 1)), .inr (.inl (some 2)), .inl (false, ((.ofNat 0), [(3, (.ofNat 1))])), .inr (.inl (some 3)), .inr (.inl (some 4)), .inr (.inl (some 5))])
def zc137 : AC := .inr (0, .inl [.inr (8, (.ofNat 0), (.ofNat 5))])
noncomputable def c22_0 : Ct := (22, 1, (6, [(0, (.ofNat 0), (.ofNat 5)), (1, (.ofNat 0), (.ofNat 39)), (2, (.ofNat 1), (.ofNat 40)), (3, (.ofNat 0), (.ofNat 8))], [], [.inr (.inl (some 0)), .inl (false, ((.ofNat 0), [(0, (.ofNat 1))])), .inl (false, ((.ofNat 0), [(1, (.ofNat 1))])), .inl (false, ((.ofNat 0), [(2, (.ofNat 1))]))], [zc136,
    zc132,
    zc133,
    zc137,
    zc134,
    zc135], []),
  [((7, [(6, (.ofNat 1), (.ofNat 8))], [], [], [.inl (3, [.inr (.inl (some 1)), .inr (.inl (some 2)), .inl (false, ((.ofNat 0), [(6, (.ofNat 1))])), .inr (.inl (some 3)), .inr (.inl (some 4)), .inr (.inl (some 5))]),
    zc132,
    zc133,
    zc137,
    zc134,
    zc135], []), 0, 0)])
noncomputable def c22_0_e : List Ct := []
noncomputable def c22_0_p0 : PE := (16, [0, 1, 2, 3, 4], (7, [(0, (.ofNat 0), (.ofNat 5)), (1, (.ofNat 0), (.ofNat 39)), (2, (.ofNat 1), (.ofNat 40)), (3, (.ofNat 0), (.ofNat 7)), (6, (.ofNat 0), (.ofNat 7))], [], [.inr (.inl (some 0)), .inl (false, ((.ofNat 0), [(0, (.ofNat 1))])), .inl (false, ((.ofNat 0), [(1, (.ofNat 1))])), .inl (false, ((.ofNat 0), [(2, (.ofNat 1))])), .inl (false, ((.ofNat 0), [(6, (.ofNat 1))]))], [zc136,
    zc132,
    zc133,
    zc137,
    zc134,
    zc135], []), symsL 6 0, some ((.ofNat 8), [(6, (.ofNat 1))]), 0, 0)
noncomputable def c22_0_pts : List PE := [c22_0_p0]
set_option maxRecDepth 100000 in
theorem c22_0_k : enCtF c22_0 c22_0_e (c22_0_pts ++ []) (none) (noF, noM, 65536, 0, 6) 3000 = true := by decide +kernel
set_option maxRecDepth 100000 in
theorem c22_0_k0 : ptCtF c22_0 c22_0_e (c22_0_pts ++ []) (noF, noM, 65536, 0, 6) 3000 c22_0_p0 = true := by decide +kernel
set_option maxRecDepth 100000 in
theorem c22_0_v : ValidC PPk c22_0 := ct_ok fpk ⟨noF_ok, noM_ok⟩ (d := 0) (ext := []) (pts := c22_0_pts) (env := c22_0_e) rfl (fun _ h => (by cases h)) ext_nil (fun q h => (by cases h)) (enF c22_0_k) (List.forall_mem_cons.mpr ⟨ptF c22_0_k0, fun _ h => (by cases h)⟩)

def zc138 : AC := .inl (4, [.inl (false, ((.ofNat 0), [(24, (.ofNat 1))])), .inr (.inl (some 22)), .inr (.inl (some 23)), .inr (.inl (some 24)), .inr (.inl (some 25))])
def zc139 : AC := .inl (5, [.inl (false, ((.ofNat 0), [(31, (.ofNat 1))])), .inr (.inl (some 29)), .inl (false, ((.ofNat 0), [(32, (.ofNat 1))])), .inl (false, ((.ofNat 0), [(33, (.ofNat 1))])), .inl (false, ((.ofNat 0), [(34, (.ofNat 1))])), .inr (.inl (some 30)), .inr (.inl (some 31))])
def zc140 : AC := .inr (102, .inl [.inl ((.ofNat 0), [(35, (.ofNat 1))])])
def zc141 : AC := .inl (6, [.inl (false, ((.ofNat 0), [(37, (.ofNat 1))])), .inr (.inl (some 33)), .inr (.inl (some 34)), .inr (.inl (some 35)), .inr (.inl (some 36)), .inr (.inl (some 37))])
def zc142 : AC := .inl (7, [.inr (.inl (some 42)), .inl (false, ((.ofNat 0), [(46, (.ofNat 1))])), .inr (.inl (some 51)), .inr (.inl (some 55)), .inr (.inl (some 56)), .inl (false, ((.ofNat 0), [(47, (.ofNat 1))])), .inl (false, ((.ofNat 0), [(48, (.ofNat 1))])), .inl (false, ((.ofNat 0), [(49, (.ofNat 1))])), .inl (false, ((.ofNat 0), [(50, (.ofNat 1))])), .inl (false, ((.ofNat 0), [(51, (.ofNat 1))])), .inl (false, ((.ofNat 0), [(52, (.ofNat 1))])), .inl (false, ((.ofNat 0), [(53, (.ofNat 1))])), .inl (false, ((.ofNat 0), [(54, (.ofNat 1))])), .inl (false, ((.ofNat 0), [(55, (.ofNat 1))])), .inl (false, ((.ofNat 0), [(56, (.ofNat 1))])), .inl (false, ((.ofNat 0), [(57, (.ofNat 1))])), .inl (false, ((.ofNat 0), [(58, (.ofNat 1))]))])
def zc143 : AC := .inl (8, [.inr (.inl (some 44)), .inl (false, ((.ofNat 0), [(59, (.ofNat 1))])), .inl (false, ((.ofNat 0), [(60, (.ofNat 1))])), .inl (false, ((.ofNat 0), [(61, (.ofNat 1))])), .inl (false, ((.ofNat 0), [(62, (.ofNat 1))]))])
def zc144 : AC := .inr (100, .inl [.inl ((.ofNat 0), [(63, (.ofNat 1))])])
def zc145 : AC := .inr (100, .inl [.inl ((.ofNat 0), [(68, (.ofNat 1))])])
def zc146 : AC := .inl (8, [.inr (.inl (some 48)), .inl (false, ((.ofNat 0), [(69, (.ofNat 1))])), .inl (false, ((.ofNat 0), [(70, (.ofNat 1))])), .inl (false, ((.ofNat 0), [(71, (.ofNat 1))])), .inl (false, ((.ofNat 0), [(72, (.ofNat 1))]))])
def zc147 : AC := .inr (100, .inl [.inl ((.ofNat 0), [(73, (.ofNat 1))])])
def zc148 : AC := .inl (8, [.inr (.inl (some 50)), .inl (false, ((.ofNat 0), [(74, (.ofNat 1))])), .inl (false, ((.ofNat 0), [(75, (.ofNat 1))])), .inl (false, ((.ofNat 0), [(76, (.ofNat 1))])), .inl (false, ((.ofNat 0), [(77, (.ofNat 1))]))])
def zc149 : AC := .inl (9, [.inr (.inl (some 52)), .inr (.inl (some 53)), .inr (.inl (some 54)), .inl (false, ((.ofNat 0), [(79, (.ofNat 1))]))])
noncomputable def c20_0 : Ct := (20, 2, (85, [(0, (.negSucc 2147483647), (.ofNat 2147483647)), (1, (.negSucc 2147483647), (.ofNat 2147483647)), (2, (.negSucc 2147483647), (.ofNat 2147483647)), (3, (.ofNat 1), (.ofNat 4)), (4, (.negSucc 2147483647), (.ofNat 2147483647)), (5, (.negSucc 2147483647), (.ofNat 2147483647)), (6, (.ofNat 1), (.ofNat 1000)), (7, (.ofNat 0), (.ofNat 50)), (8, (.ofNat 0), (.ofNat 10)), (9, (.ofNat 0), (.ofNat 60)), (14, (.ofNat 0), (.ofNat 60)), (19, (.ofNat 0), (.ofNat 8)), (24, (.ofNat 0), (.ofNat 6)), (31, (.ofNat 0), (.ofNat 60)), (32, (.negSucc 2147483647), (.ofNat 2147483647)), (33, (.ofNat 0), (.ofNat 60)), (34, (.ofNat 0), (.ofNat 60)), (37, (.ofNat 0), (.ofNat 8)), (46, (.negSucc 2147483647), (.ofNat 2147483647)), (47, (.negSucc 2147483647), (.ofNat 2147483647)), (48, (.negSucc 2147483647), (.ofNat 2147483647)), (49, (.negSucc 2147483647), (.ofNat 2147483647)), (50, (.negSucc 2147483647), (.ofNat 2147483647)), (51, (.negSucc 2147483647), (.ofNat 2147483647)), (52, (.ofNat 0), (.ofNat 3)), (53, (.negSucc 2147483647), (.ofNat 2147483647)), (54, (.negSucc 2147483647), (.ofNat 2147483647)), (55, (.negSucc 2147483647), (.ofNat 2147483647)), (56, (.negSucc 2147483647), (.ofNat 2147483647)), (57, (.ofNat 0), (.ofNat 1)), (58, (.negSucc 2147483647), (.ofNat 2147483647)), (59, (.negSucc 2147483647), (.ofNat 2147483647)), (60, (.negSucc 2147483647), (.ofNat 2147483647)), (61, (.negSucc 2147483647), (.ofNat 2147483647)), (62, (.negSucc 2147483647), (.ofNat 2147483647)), (64, (.negSucc 2147483647), (.ofNat 2147483647)), (65, (.negSucc 2147483647), (.ofNat 2147483647)), (66, (.negSucc 2147483647), (.ofNat 2147483647)), (67, (.negSucc 2147483647), (.ofNat 2147483647)), (69, (.negSucc 2147483647), (.ofNat 2147483647)), (70, (.negSucc 2147483647), (.ofNat 2147483647)), (71, (.negSucc 2147483647), (.ofNat 2147483647)), (72, (.negSucc 2147483647), (.ofNat 2147483647)), (74, (.negSucc 2147483647), (.ofNat 2147483647)), (75, (.negSucc 2147483647), (.ofNat 2147483647)), (76, (.negSucc 2147483647), (.ofNat 2147483647)), (77, (.negSucc 2147483647), (.ofNat 2147483647)), (79, (.negSucc 2147483647), (.ofNat 2147483647))], [], [.inr (.inl (some 0)), .inl (false, ((.ofNat 0), [(0, (.ofNat 1))])), .inl (false, ((.ofNat 0), [(1, (.ofNat 1))])), .inl (false, ((.ofNat 0), [(2, (.ofNat 1))]))], [zc21,
    zc116,
    .inr (4, .inr (.inr [some 3, some 8])),
    zc117,
    zc43,
    zc44,
    zc118,
    zc46,
    zc119,
    zc48,
    zc49,
    zc95,
    zc51,
    zc120,
    zc53,
    zc54,
    zc137,
    zc134,
    zc135,
    zc55,
    zc56,
    zc138,
    zc97,
    zc59,
    zc60,
    zc61,
    zc62,
    zc63,
    zc139,
    zc140,
    zc101,
    .inr (1, .inr (.inl 60)),
    zc141,
    zc102,
    zc68,
    zc69,
    zc70,
    zc71,
    zc72,
    zc73,
    zc74,
    zc142,
    zc77,
    zc143,
    zc144,
    zc79,
    zc145,
    zc146,
    zc147,
    zc148,
    zc84,
    zc149,
    zc86,
    zc87,
    zc126,
    zc127,
    zc128,
    zc22,
    .inr (1, .inr (.inl 6)),
    .inr (1, .inr (.inl 4)),
    .inr (6, .inr (.inr [none, none])),
    .inr (7, .inr (.inr [none, none]))], [(0, [4, 5, 6, 7], []), (0, [9, 10, 11, 12], [])]),
  [((87, [(85, (.negSucc 3), (.ofNat 7)), (86, (.ofNat 0), (.ofNat 8))], [], [.inl (false, ((.ofNat 0), [(85, (.ofNat 1))]))], [zc21,
    zc116,
    .inr (4, .inr (.inr [some 3, some 8])),
    zc117,
    zc43,
    zc44,
    zc118,
    zc46,
    zc119,
    zc48,
    zc49,
    zc95,
    zc51,
    .inl (3, [.inr (.inl (some 14)), .inr (.inl (some 15)), .inl (false, ((.ofNat 0), [(86, (.ofNat 1))])), .inr (.inl (some 16)), .inr (.inl (some 17)), .inr (.inl (some 18))]),
    zc53,
    zc54,
    zc137,
    zc134,
    zc135,
    zc55,
    zc56,
    zc138,
    zc97,
    zc59,
    zc60,
    zc61,
    zc62,
    zc63,
    zc139,
    zc140,
    zc101,
    .inr (1, .inr (.inl 60)),
    zc141,
    zc102,
    zc68,
    zc69,
    zc70,
    zc71,
    zc72,
    zc73,
    zc74,
    zc142,
    zc77,
    zc143,
    zc144,
    zc79,
    zc145,
    zc146,
    zc147,
    zc148,
    zc84,
    zc149,
    zc86,
    zc87,
    zc126,
    zc127,
    zc128,
    zc22,
    .inr (1, .inr (.inl 6)),
    .inr (1, .inr (.inl 4)),
    .inr (6, .inr (.inr [none, none])),
    .inr (7, .inr (.inr [none, none]))], [(0, [4, 5, 6, 7], []), (0, [9, 10, 11, 12], [])]), 0, 0)])
noncomputable def c20_0_e : List Ct := [c12_0, c21_0, c22_0]
noncomputable def c20_0_pts : List PE := []
set_option maxRecDepth 100000 in
theorem c20_0_k : enCtF c20_0 c20_0_e (c20_0_pts ++ []) (none) noH 3000 = true := by decide +kernel
set_option maxRecDepth 100000 in
theorem c20_0_v : ValidC PPk c20_0 := ct_ok fpk noH_ok (d := 1) (ext := []) (pts := c20_0_pts) (env := c20_0_e) rfl (List.forall_mem_cons.mpr ⟨⟨c12_0_v, Nat.le_of_ble_eq_true rfl⟩, List.forall_mem_cons.mpr ⟨⟨c21_0_v, Nat.le_of_ble_eq_true rfl⟩, List.forall_mem_cons.mpr ⟨⟨c22_0_v, Nat.le_of_ble_eq_true rfl⟩, fun _ h => (by cases h)⟩⟩⟩) ext_nil (fun q h => (by cases h)) (enF c20_0_k) (fun _ h => (by cases h))

def zc150 : AC := .inl (1, [.inl (false, ((.ofNat 0), [(0, (.ofNat 1))])), .inr (.inl (some 2)), .inr (.inl (some 13)), .inr (.inl (some 19)), .inr (.inl (some 20)), .inl (false, ((.ofNat 0), [(1, (.ofNat 1))])), .inl (false, ((.ofNat 0), [(2, (.ofNat 1))])), .inr (.inl (some 21)), .inl (false, ((.ofNat 0), [(3, (.ofNat 1))])), .inl (false, ((.ofNat 0), [(4, (.ofNat 1))])), .inr (.inl (some 26)), .inr (.inl (some 27)), .inr (.inl (some 28)), .inr (.inl (some 32)), .inl (false, ((.ofNat 0), [(5, (.ofNat 1))])), .inr (.inl (some 38)), .inr (.inl (some 39)), .inr (.inl (some 40))])
def zc151 : AC := .inl (2, [.inl (false, ((.ofNat 0), [(6, (.ofNat 1))])), .inr (.inl (some 4)), .inr (.inl (some 5)), .inr (.inl (some 6)), .inr (.inl (some 7))])
def zc152 : AC := .inr (100, .inl [.inl ((.ofNat 0), [(7, (.ofNat 1))])])
def zc153 : AC := .inl (3, [.inr (.inl (some 14)), .inr (.inl (some 15)), .inl (false, ((.ofNat 0), [(16, (.ofNat 1))])), .inr (.inl (some 16)), .inr (.inl (some 17)), .inr (.inl (some 18))])
noncomputable def c23_0 : Ct := (23, 1, (85, [(0, (.ofNat 1), (.ofNat 4)), (1, (.negSucc 2147483647), (.ofNat 2147483647)), (2, (.negSucc 2147483647), (.ofNat 2147483647)), (3, (.ofNat 1), (.ofNat 1000)), (4, (.ofNat 0), (.ofNat 50)), (5, (.ofNat 0), (.ofNat 10)), (6, (.ofNat 0), (.ofNat 60)), (11, (.ofNat 0), (.ofNat 60)), (16, (.ofNat 0), (.ofNat 8)), (24, (.ofNat 0), (.ofNat 6)), (31, (.ofNat 0), (.ofNat 60)), (32, (.negSucc 2147483647), (.ofNat 2147483647)), (33, (.ofNat 0), (.ofNat 60)), (34, (.ofNat 0), (.ofNat 60)), (37, (.ofNat 0), (.ofNat 8)), (46, (.negSucc 2147483647), (.ofNat 2147483647)), (47, (.negSucc 2147483647), (.ofNat 2147483647)), (48, (.negSucc 2147483647), (.ofNat 2147483647)), (49, (.negSucc 2147483647), (.ofNat 2147483647)), (50, (.negSucc 2147483647), (.ofNat 2147483647)), (51, (.negSucc 2147483647), (.ofNat 2147483647)), (52, (.ofNat 0), (.ofNat 3)), (53, (.negSucc 2147483647), (.ofNat 2147483647)), (54, (.negSucc 2147483647), (.ofNat 2147483647)), (55, (.negSucc 2147483647), (.ofNat 2147483647)), (56, (.negSucc 2147483647), (.ofNat 2147483647)), (57, (.ofNat 0), (.ofNat 1)), (58, (.negSucc 2147483647), (.ofNat 2147483647)), (59, (.negSucc 2147483647), (.ofNat 2147483647)), (60, (.negSucc 2147483647), (.ofNat 2147483647)), (61, (.negSucc 2147483647), (.ofNat 2147483647)), (62, (.negSucc 2147483647), (.ofNat 2147483647)), (64, (.negSucc 2147483647), (.ofNat 2147483647)), (65, (.negSucc 2147483647), (.ofNat 2147483647)), (66, (.negSucc 2147483647), (.ofNat 2147483647)), (67, (.negSucc 2147483647), (.ofNat 2147483647)), (69, (.negSucc 2147483647), (.ofNat 2147483647)), (70, (.negSucc 2147483647), (.ofNat 2147483647)), (71, (.negSucc 2147483647), (.ofNat 2147483647)), (72, (.negSucc 2147483647), (.ofNat 2147483647)), (74, (.negSucc 2147483647), (.ofNat 2147483647)), (75, (.negSucc 2147483647), (.ofNat 2147483647)), (76, (.negSucc 2147483647), (.ofNat 2147483647)), (77, (.negSucc 2147483647), (.ofNat 2147483647)), (79, (.negSucc 2147483647), (.ofNat 2147483647))], [], [.inr (.inl (some 0))], [zc21,
    zc150,
    .inr (4, .inr (.inr [some 3, some 8])),
    zc151,
    zc152,
    zc41,
    zc42,
    zc43,
    zc93,
    zc118,
    zc46,
    zc47,
    zc48,
    zc153,
    zc95,
    zc51,
    zc52,
    zc53,
    zc54,
    zc55,
    zc56,
    zc138,
    zc97,
    zc59,
    zc60,
    zc61,
    zc62,
    zc63,
    zc139,
    zc140,
    zc101,
    .inr (1, .inr (.inl 60)),
    zc141,
    zc102,
    zc68,
    zc69,
    zc70,
    zc71,
    zc72,
    zc73,
    zc74,
    zc142,
    zc77,
    zc143,
    zc144,
    zc79,
    zc145,
    zc146,
    zc147,
    zc148,
    zc84,
    zc149,
    zc86,
    zc87,
    zc126,
    zc127,
    zc128,
    zc22,
    .inr (1, .inr (.inl 6)),
    .inr (1, .inr (.inl 4)),
    .inr (6, .inr (.inr [none, none])),
    .inr (7, .inr (.inr [none, none]))], [(0, [4, 5, 6, 7], []), (0, [9, 10, 11, 12], [])]),
  [((85, [], [], [.inl (false, ((.ofNat 0), [(16, (.ofNat 1))]))], [zc21,
    zc150,
    .inr (4, .inr (.inr [some 3, some 8])),
    zc151,
    zc152,
    zc41,
    zc42,
    zc43,
    zc93,
    zc118,
    zc46,
    zc47,
    zc48,
    zc16,
    zc95,
    zc51,
    zc52,
    zc53,
    zc54,
    zc55,
    zc56,
    zc138,
    zc97,
    zc59,
    zc60,
    zc61,
    zc62,
    zc63,
    zc139,
    zc140,
    zc101,
    .inr (1, .inr (.inl 60)),
    zc141,
    zc102,
    zc68,
    zc69,
    zc70,
    zc71,
    zc72,
    zc73,
    zc74,
    zc142,
    zc77,
    zc143,
    zc144,
    zc79,
    zc145,
    zc146,
    zc147,
    zc148,
    zc84,
    zc149,
    zc86,
    zc87,
    zc126,
    zc127,
    zc128,
    zc22,
    .inr (1, .inr (.inl 6)),
    .inr (1, .inr (.inl 4)),
    .inr (6, .inr (.inr [none, none])),
    .inr (7, .inr (.inr [none, none]))], [(0, [4, 5, 6, 7], []), (0, [9, 10, 11, 12], [])]), 0, 0)])
noncomputable def c23_0_e : List Ct := []
noncomputable def c23_0_pts : List PE := []
set_option maxRecDepth 100000 in
theorem c23_0_k : enCtF c23_0 c23_0_e (c23_0_pts ++ []) (none) noH 3000 = true := by decide +kernel
set_option maxRecDepth 100000 in
theorem c23_0_v : ValidC PPk c23_0 := ct_ok fpk noH_ok (d := 0) (ext := []) (pts := c23_0_pts) (env := c23_0_e) rfl (fun _ h => (by cases h)) ext_nil (fun q h => (by cases h)) (enF c23_0_k) (fun _ h => (by cases h))

def zc154 : AC := .inr (0, .inl [.inr (8, (.negSucc 2147483647), (.ofNat 2147483647))])
noncomputable def c24_0 : Ct := (24, 2, (86, [(0, (.negSucc 2147483647), (.ofNat 2147483647)), (1, (.negSucc 2147483647), (.ofNat 2147483647)), (2, (.negSucc 2147483647), (.ofNat 2147483647)), (3, (.ofNat 1), (.ofNat 4)), (4, (.negSucc 2147483647), (.ofNat 2147483647)), (5, (.negSucc 2147483647), (.ofNat 2147483647)), (6, (.ofNat 1), (.ofNat 1000)), (7, (.ofNat 0), (.ofNat 50)), (8, (.ofNat 0), (.ofNat 10)), (9, (.ofNat 0), (.ofNat 60)), (14, (.ofNat 0), (.ofNat 60)), (19, (.ofNat 0), (.ofNat 8)), (25, (.ofNat 0), (.ofNat 6)), (32, (.ofNat 0), (.ofNat 60)), (33, (.negSucc 2147483647), (.ofNat 2147483647)), (34, (.ofNat 0), (.ofNat 60)), (35, (.ofNat 0), (.ofNat 60)), (38, (.ofNat 0), (.ofNat 8)), (47, (.negSucc 2147483647), (.ofNat 2147483647)), (48, (.negSucc 2147483647), (.ofNat 2147483647)), (49, (.negSucc 2147483647), (.ofNat 2147483647)), (50, (.negSucc 2147483647), (.ofNat 2147483647)), (51, (.negSucc 2147483647), (.ofNat 2147483647)), (52, (.negSucc 2147483647), (.ofNat 2147483647)), (53, (.ofNat 0), (.ofNat 3)), (54, (.negSucc 2147483647), (.ofNat 2147483647)), (55, (.negSucc 2147483647), (.ofNat 2147483647)), (56, (.negSucc 2147483647), (.ofNat 2147483647)), (57, (.negSucc 2147483647), (.ofNat 2147483647)), (58, (.ofNat 0), (.ofNat 1)), (59, (.negSucc 2147483647), (.ofNat 2147483647)), (60, (.negSucc 2147483647), (.ofNat 2147483647)), (61, (.negSucc 2147483647), (.ofNat 2147483647)), (62, (.negSucc 2147483647), (.ofNat 2147483647)), (63, (.negSucc 2147483647), (.ofNat 2147483647)), (65, (.negSucc 2147483647), (.ofNat 2147483647)), (66, (.negSucc 2147483647), (.ofNat 2147483647)), (67, (.negSucc 2147483647), (.ofNat 2147483647)), (68, (.negSucc 2147483647), (.ofNat 2147483647)), (70, (.negSucc 2147483647), (.ofNat 2147483647)), (71, (.negSucc 2147483647), (.ofNat 2147483647)), (72, (.negSucc 2147483647), (.ofNat 2147483647)), (73, (.negSucc 2147483647), (.ofNat 2147483647)), (75, (.negSucc 2147483647), (.ofNat 2147483647)), (76, (.negSucc 2147483647), (.ofNat 2147483647)), (77, (.negSucc 2147483647), (.ofNat 2147483647)), (78, (.negSucc 2147483647), (.ofNat 2147483647)), (80, (.negSucc 2147483647), (.ofNat 2147483647))], [], [.inr (.inl (some 0)), .inl (false, ((.ofNat 0), [(0, (.ofNat 1))])), .inl (false, ((.ofNat 0), [(1, (.ofNat 1))])), .inl (false, ((.ofNat 0), [(2, (.ofNat 1))]))], [zc21,
    zc116,
    .inr (4, .inr (.inr [some 3, some 8])),
    zc117,
    zc43,
    zc44,
    zc118,
    zc46,
    zc119,
    zc48,
    zc49,
    zc95,
    zc51,
    zc120,
    zc53,
    zc54,
    zc55,
    zc56,
    zc57,
    zc154,
    zc154,
    zc58,
    zc59,
    zc60,
    zc61,
    zc62,
    zc63,
    zc30,
    zc64,
    zc65,
    zc66,
    .inr (1, .inr (.inl 60)),
    zc67,
    zc68,
    zc69,
    zc70,
    zc71,
    zc72,
    zc73,
    zc74,
    zc75,
    zc76,
    zc77,
    zc78,
    zc107,
    zc122,
    zc109,
    zc123,
    zc111,
    zc124,
    zc85,
    zc125,
    zc87,
    zc126,
    zc127,
    zc128,
    zc129,
    zc22,
    .inr (1, .inr (.inl 6)),
    .inr (1, .inr (.inl 4)),
    .inr (6, .inr (.inr [none, none])),
    .inr (7, .inr (.inr [none, none]))], [(0, [4, 5, 6, 7], []), (0, [9, 10, 11, 12], [])]),
  [((87, [(86, (.negSucc 1), (.ofNat 1))], [], [.inl (false, ((.ofNat 0), [(86, (.ofNat 1))]))], [zc21,
    zc116,
    .inr (4, .inr (.inr [some 3, some 8])),
    zc117,
    zc43,
    zc44,
    zc118,
    zc46,
    zc119,
    zc48,
    zc49,
    zc95,
    zc51,
    zc120,
    zc53,
    zc54,
    zc55,
    zc56,
    zc57,
    zc154,
    zc154,
    zc58,
    zc59,
    zc60,
    zc61,
    zc62,
    zc63,
    zc30,
    zc64,
    zc65,
    zc66,
    .inr (1, .inr (.inl 60)),
    zc67,
    zc68,
    zc69,
    zc70,
    zc71,
    zc72,
    zc73,
    zc74,
    zc75,
    zc76,
    zc77,
    zc78,
    zc107,
    zc122,
    zc109,
    zc123,
    zc111,
    zc124,
    zc85,
    zc125,
    zc87,
    zc126,
    zc127,
    zc128,
    zc129,
    zc22,
    .inr (1, .inr (.inl 6)),
    .inr (1, .inr (.inl 4)),
    .inr (6, .inr (.inr [none, none])),
    .inr (7, .inr (.inr [none, none]))], [(0, [4, 5, 6, 7], []), (0, [9, 10, 11, 12], [])]), 0, 0)])
noncomputable def c24_0_e : List Ct := [c12_0]
noncomputable def c24_0_pts : List PE := []
set_option maxRecDepth 100000 in
theorem c24_0_k : enCtF c24_0 c24_0_e (c24_0_pts ++ []) (none) noH 3000 = true := by decide +kernel
set_option maxRecDepth 100000 in
theorem c24_0_v : ValidC PPk c24_0 := ct_ok fpk noH_ok (d := 1) (ext := []) (pts := c24_0_pts) (env := c24_0_e) rfl (List.forall_mem_cons.mpr ⟨⟨c12_0_v, Nat.le_of_ble_eq_true rfl⟩, fun _ h => (by cases h)⟩) ext_nil (fun q h => (by cases h)) (enF c24_0_k) (fun _ h => (by cases h))

def zc155 : AC := .inl (1, [.inl (false, ((.ofNat 0), [(2, (.ofNat 1))])), .inr (.inl (some 2)), .inr (.inl (some 13)), .inr (.inl (some 19)), .inr (.inl (some 20)), .inl (false, ((.ofNat 0), [(3, (.ofNat 1))])), .inl (false, ((.ofNat 0), [(4, (.ofNat 1))])), .inr (.inl (some 21)), .inl (false, ((.ofNat 0), [(5, (.ofNat 1))])), .inl (false, ((.ofNat 0), [(6, (.ofNat 1))])), .inr (.inl (some 26)), .inr (.inl (some 27)), .inr (.inl (some 28)), .inr (.inl (some 32)), .inl (false, ((.ofNat 0), [(7, (.ofNat 1))])), .inr (.inl (some 38)), .inr (.inl (some 39)), .inr (.inl (some 40))])
def zc156 : AC := .inl (2, [.inl (false, ((.ofNat 0), [(8, (.ofNat 1))])), .inr (.inl (some 4)), .inr (.inl (some 5)), .inr (.inl (some 6)), .inr (.inl (some 7))])
def zc157 : AC := .inl (2, [.inl (false, ((.ofNat 0), [(13, (.ofNat 1))])), .inr (.inl (some 9)), .inr (.inl (some 10)), .inr (.inl (some 11)), .inr (.inl (some 12))])
def zc158 : AC := .inl (3, [.inr (.inl (some 14)), .inr (.inl (some 15)), .inl (false, ((.ofNat 0), [(18, (.ofNat 1))])), .inr (.inl (some 16)), .inr (.inl (some 17)), .inr (.inl (some 18))])
def zc159 : AC := .inl (4, [.inl (false, ((.ofNat 0), [(26, (.ofNat 1))])), .inr (.inl (some 22)), .inr (.inl (some 23)), .inr (.inl (some 24)), .inr (.inl (some 25))])
def zc160 : AC := .inl (5, [.inl (false, ((.ofNat 0), [(33, (.ofNat 1))])), .inr (.inl (some 29)), .inl (false, ((.ofNat 0), [(34, (.ofNat 1))])), .inl (false, ((.ofNat 0), [(35, (.ofNat 1))])), .inl (false, ((.ofNat 0), [(36, (.ofNat 1))])), .inr (.inl (some 30)), .inr (.inl (some 31))])
def zc161 : AC := .inr (102, .inl [.inl ((.ofNat 0), [(37, (.ofNat 1))])])
def zc162 : AC := .inl (6, [.inl (false, ((.ofNat 0), [(39, (.ofNat 1))])), .inr (.inl (some 33)), .inr (.inl (some 34)), .inr (.inl (some 35)), .inr (.inl (some 36)), .inr (.inl (some 37))])
def zc163 : AC := .inr (100, .inl [.inl ((.ofNat 0), [(47, (.ofNat 1))])])
def zc164 : AC := .inl (7, [.inr (.inl (some 42)), .inl (false, ((.ofNat 0), [(48, (.ofNat 1))])), .inr (.inl (some 51)), .inr (.inl (some 55)), .inr (.inl (some 56)), .inl (false, ((.ofNat 0), [(49, (.ofNat 1))])), .inl (false, ((.ofNat 0), [(50, (.ofNat 1))])), .inl (false, ((.ofNat 0), [(51, (.ofNat 1))])), .inl (false, ((.ofNat 0), [(52, (.ofNat 1))])), .inl (false, ((.ofNat 0), [(53, (.ofNat 1))])), .inl (false, ((.ofNat 0), [(54, (.ofNat 1))])), .inl (false, ((.ofNat 0), [(55, (.ofNat 1))])), .inl (false, ((.ofNat 0), [(56, (.ofNat 1))])), .inl (false, ((.ofNat 0), [(57, (.ofNat 1))])), .inl (false, ((.ofNat 0), [(58, (.ofNat 1))])), .inl (false, ((.ofNat 0), [(59, (.ofNat 1))])), .inl (false, ((.ofNat 0), [(60, (.ofNat 1))]))])
def zc165 : AC := .inl (8, [.inr (.inl (some 44)), .inl (false, ((.ofNat 0), [(61, (.ofNat 1))])), .inl (false, ((.ofNat 0), [(62, (.ofNat 1))])), .inl (false, ((.ofNat 0), [(63, (.ofNat 1))])), .inl (false, ((.ofNat 0), [(64, (.ofNat 1))]))])
def zc166 : AC := .inr (100, .inl [.inl ((.ofNat 0), [(65, (.ofNat 1))])])
def zc167 : AC := .inl (8, [.inr (.inl (some 46)), .inl (false, ((.ofNat 0), [(66, (.ofNat 1))])), .inl (false, ((.ofNat 0), [(67, (.ofNat 1))])), .inl (false, ((.ofNat 0), [(68, (.ofNat 1))])), .inl (false, ((.ofNat 0), [(69, (.ofNat 1))]))])
def zc168 : AC := .inr (100, .inl [.inl ((.ofNat 0), [(70, (.ofNat 1))])])
def zc169 : AC := .inl (8, [.inr (.inl (some 48)), .inl (false, ((.ofNat 0), [(71, (.ofNat 1))])), .inl (false, ((.ofNat 0), [(72, (.ofNat 1))])), .inl (false, ((.ofNat 0), [(73, (.ofNat 1))])), .inl (false, ((.ofNat 0), [(74, (.ofNat 1))]))])
def zc170 : AC := .inr (100, .inl [.inl ((.ofNat 0), [(75, (.ofNat 1))])])
def zc171 : AC := .inl (8, [.inr (.inl (some 50)), .inl (false, ((.ofNat 0), [(76, (.ofNat 1))])), .inl (false, ((.ofNat 0), [(77, (.ofNat 1))])), .inl (false, ((.ofNat 0), [(78, (.ofNat 1))])), .inl (false, ((.ofNat 0), [(79, (.ofNat 1))]))])
def zc172 : AC := .inl (9, [.inr (.inl (some 52)), .inr (.inl (some 53)), .inr (.inl (some 54)), .inl (false, ((.ofNat 0), [(81, (.ofNat 1))]))])
def zc173 : AC := .inr (100, .inl [.inl ((.ofNat 0), [(86, (.ofNat 1))])])
noncomputable def c25_0 : Ct := (25, 2, (87, [(0, (.negSucc 2147483647), (.ofNat 2147483647)), (1, (.negSucc 2147483647), (.ofNat 2147483647)), (2, (.ofNat 1), (.ofNat 4)), (3, (.negSucc 2147483647), (.ofNat 2147483647)), (4, (.negSucc 2147483647), (.ofNat 2147483647)), (5, (.ofNat 1), (.ofNat 1000)), (6, (.ofNat 0), (.ofNat 50)), (7, (.ofNat 0), (.ofNat 10)), (8, (.ofNat 0), (.ofNat 60)), (13, (.ofNat 0), (.ofNat 60)), (18, (.ofNat 0), (.ofNat 8)), (26, (.ofNat 0), (.ofNat 6)), (33, (.ofNat 0), (.ofNat 60)), (34, (.negSucc 2147483647), (.ofNat 2147483647)), (35, (.ofNat 0), (.ofNat 60)), (36, (.ofNat 0), (.ofNat 60)), (39, (.ofNat 0), (.ofNat 8)), (48, (.negSucc 2147483647), (.ofNat 2147483647)), (49, (.negSucc 2147483647), (.ofNat 2147483647)), (50, (.negSucc 2147483647), (.ofNat 2147483647)), (51, (.negSucc 2147483647), (.ofNat 2147483647)), (52, (.negSucc 2147483647), (.ofNat 2147483647)), (53, (.negSucc 2147483647), (.ofNat 2147483647)), (54, (.ofNat 0), (.ofNat 3)), (55, (.negSucc 2147483647), (.ofNat 2147483647)), (56, (.negSucc 2147483647), (.ofNat 2147483647)), (57, (.negSucc 2147483647), (.ofNat 2147483647)), (58, (.negSucc 2147483647), (.ofNat 2147483647)), (59, (.ofNat 0), (.ofNat 1)), (60, (.negSucc 2147483647), (.ofNat 2147483647)), (61, (.negSucc 2147483647), (.ofNat 2147483647)), (62, (.negSucc 2147483647), (.ofNat 2147483647)), (63, (.negSucc 2147483647), (.ofNat 2147483647)), (64, (.negSucc 2147483647), (.ofNat 2147483647)), (66, (.negSucc 2147483647), (.ofNat 2147483647)), (67, (.negSucc 2147483647), (.ofNat 2147483647)), (68, (.negSucc 2147483647), (.ofNat 2147483647)), (69, (.negSucc 2147483647), (.ofNat 2147483647)), (71, (.negSucc 2147483647), (.ofNat 2147483647)), (72, (.negSucc 2147483647), (.ofNat 2147483647)), (73, (.negSucc 2147483647), (.ofNat 2147483647)), (74, (.negSucc 2147483647), (.ofNat 2147483647)), (76, (.negSucc 2147483647), (.ofNat 2147483647)), (77, (.negSucc 2147483647), (.ofNat 2147483647)), (78, (.negSucc 2147483647), (.ofNat 2147483647)), (79, (.negSucc 2147483647), (.ofNat 2147483647)), (81, (.negSucc 2147483647), (.ofNat 2147483647))], [], [.inr (.inl (some 0)), .inl (false, ((.ofNat 0), [(0, (.ofNat 1))])), .inl (false, ((.ofNat 0), [(1, (.ofNat 1))]))], [zc21,
    zc155,
    .inr (4, .inr (.inr [some 3, some 8])),
    zc156,
    zc42,
    zc43,
    zc44,
    zc118,
    zc157,
    zc47,
    zc48,
    zc49,
    zc95,
    zc158,
    zc52,
    zc53,
    zc54,
    zc55,
    zc56,
    zc57,
    zc97,
    zc159,
    zc60,
    zc61,
    zc62,
    zc63,
    zc30,
    zc31,
    zc160,
    zc161,
    zc102,
    .inr (1, .inr (.inl 60)),
    zc162,
    zc69,
    zc70,
    zc71,
    zc72,
    zc73,
    zc74,
    zc75,
    zc163,
    zc164,
    zc77,
    zc165,
    zc166,
    zc167,
    zc168,
    zc169,
    zc170,
    zc171,
    zc86,
    zc172,
    zc126,
    zc127,
    zc128,
    zc129,
    zc173,
    zc22,
    .inr (1, .inr (.inl 6)),
    .inr (1, .inr (.inl 4)),
    .inr (6, .inr (.inr [none, none])),
    .inr (7, .inr (.inr [none, none]))], [(0, [4, 5, 6, 7], []), (0, [9, 10, 11, 12], [])]),
  [((90, [(87, (.negSucc 1), (.ofNat 1)), (88, (.negSucc 2147483647), (.ofNat 2147483647)), (89, (.negSucc 2147483647), (.ofNat 2147483647))], [], [.inl (false, ((.ofNat 0), [(87, (.ofNat 1))]))], [zc21,
    .inl (1, [.inl (false, ((.ofNat 0), [(2, (.ofNat 1))])), .inr (.inl (some 2)), .inr (.inl (some 13)), .inr (.inl (some 19)), .inr (.inl (some 20)), .inl (false, ((.ofNat 0), [(88, (.ofNat 1))])), .inl (false, ((.ofNat 0), [(89, (.ofNat 1))])), .inr (.inl (some 21)), .inl (false, ((.ofNat 0), [(5, (.ofNat 1))])), .inl (false, ((.ofNat 0), [(6, (.ofNat 1))])), .inr (.inl (some 26)), .inr (.inl (some 27)), .inr (.inl (some 28)), .inr (.inl (some 32)), .inl (false, ((.ofNat 0), [(7, (.ofNat 1))])), .inr (.inl (some 38)), .inr (.inl (some 39)), .inr (.inl (some 40))]),
    .inr (4, .inr (.inr [some 3, some 8])),
    zc156,
    zc42,
    zc43,
    zc44,
    zc118,
    zc157,
    zc47,
    zc48,
    zc49,
    zc95,
    zc158,
    zc52,
    zc53,
    zc54,
    zc55,
    zc56,
    zc57,
    zc97,
    zc159,
    zc60,
    zc61,
    zc62,
    zc63,
    zc30,
    zc31,
    zc160,
    zc161,
    zc102,
    .inr (1, .inr (.inl 60)),
    zc162,
    zc69,
    zc70,
    zc71,
    zc72,
    zc73,
    zc74,
    zc75,
    zc163,
    zc164,
    zc77,
    zc165,
    zc166,
    zc167,
    zc168,
    zc169,
    zc170,
    zc171,
    zc86,
    zc172,
    zc126,
    zc127,
    zc128,
    zc129,
    zc173,
    zc22,
    .inr (1, .inr (.inl 6)),
    .inr (1, .inr (.inl 4)),
    .inr (6, .inr (.inr [none, none])),
    .inr (7, .inr (.inr [none, none]))], [(0, [4, 5, 6, 7], []), (0, [9, 10, 11, 12], [])]), 0, 0)])
noncomputable def c25_0_e : List Ct := [c12_0]
noncomputable def c25_0_pts : List PE := []
set_option maxRecDepth 100000 in
theorem c25_0_k : enCtF c25_0 c25_0_e (c25_0_pts ++ []) (none) noH 3000 = true := by decide +kernel
set_option maxRecDepth 100000 in
theorem c25_0_v : ValidC PPk c25_0 := ct_ok fpk noH_ok (d := 1) (ext := []) (pts := c25_0_pts) (env := c25_0_e) rfl (List.forall_mem_cons.mpr ⟨⟨c12_0_v, Nat.le_of_ble_eq_true rfl⟩, fun _ h => (by cases h)⟩) ext_nil (fun q h => (by cases h)) (enF c25_0_k) (fun _ h => (by cases h))

def zc174 : AC := .inr (0, .inl [.inr (6, (.negSucc 2147483647), (.ofNat 2147483647))])
noncomputable def c27_0 : Ct := (27, 1, (5, [(0, (.negSucc 2147483647), (.ofNat 2147483647)), (1, (.negSucc 2147483647), (.ofNat 2147483647)), (2, (.negSucc 2147483647), (.ofNat 2147483647)), (3, (.negSucc 2147483647), (.ofNat 2147483647)), (4, (.ofNat 0), (.ofNat 6))], [], [.inr (.inl (some 0)), .inl (false, ((.ofNat 0), [(0, (.ofNat 1))])), .inl (false, ((.ofNat 0), [(1, (.ofNat 1))])), .inl (false, ((.ofNat 0), [(2, (.ofNat 1))])), .inl (false, ((.ofNat 0), [(3, (.ofNat 1))]))], [.inl (4, [.inl (false, ((.ofNat 0), [(4, (.ofNat 1))])), .inr (.inl (some 1)), .inr (.inl (some 2)), .inr (.inl (some 3)), .inr (.inl (some 4))]),
    zc174,
    zc174,
    zc174,
    zc174], []),
  [((6, [(5, (.ofNat 1), (.ofNat 6))], [], [], [.inl (4, [.inl (false, ((.ofNat 0), [(5, (.ofNat 1))])), .inr (.inl (some 1)), .inr (.inl (some 2)), .inr (.inl (some 3)), .inr (.inl (some 4))]),
    zc174,
    zc174,
    zc174,
    zc174], []), 0, 0)])
noncomputable def c27_0_e : List Ct := []
noncomputable def c27_0_pts : List PE := []
set_option maxRecDepth 100000 in
theorem c27_0_k : enCtF c27_0 c27_0_e (c27_0_pts ++ []) (none) noH 3000 = true := by decide +kernel
set_option maxRecDepth 100000 in
theorem c27_0_v : ValidC PPk c27_0 := ct_ok fpk noH_ok (d := 0) (ext := []) (pts := c27_0_pts) (env := c27_0_e) rfl (fun _ h => (by cases h)) ext_nil (fun q h => (by cases h)) (enF c27_0_k) (fun _ h => (by cases h))

def zc175 : AC := .inl (2, [.inl (false, ((.ofNat 0), [(15, (.ofNat 1))])), .inr (.inl (some 9)), .inr (.inl (some 10)), .inr (.inl (some 11)), .inr (.inl (some 12))])
def zc176 : AC := .inl (3, [.inr (.inl (some 14)), .inr (.inl (some 15)), .inl (false, ((.ofNat 0), [(20, (.ofNat 1))])), .inr (.inl (some 16)), .inr (.inl (some 17)), .inr (.inl (some 18))])
noncomputable def c26_0 : Ct := (26, 2, (85, [(0, (.negSucc 2147483647), (.ofNat 2147483647)), (1, (.negSucc 2147483647), (.ofNat 2147483647)), (2, (.negSucc 2147483647), (.ofNat 2147483647)), (3, (.negSucc 2147483647), (.ofNat 2147483647)), (4, (.ofNat 1), (.ofNat 4)), (5, (.negSucc 2147483647), (.ofNat 2147483647)), (6, (.negSucc 2147483647), (.ofNat 2147483647)), (7, (.ofNat 1), (.ofNat 1000)), (8, (.ofNat 0), (.ofNat 50)), (9, (.ofNat 0), (.ofNat 10)), (10, (.ofNat 0), (.ofNat 60)), (15, (.ofNat 0), (.ofNat 60)), (20, (.ofNat 0), (.ofNat 8)), (28, (.ofNat 0), (.ofNat 6)), (31, (.ofNat 0), (.ofNat 60)), (32, (.negSucc 2147483647), (.ofNat 2147483647)), (33, (.ofNat 0), (.ofNat 60)), (34, (.ofNat 0), (.ofNat 60)), (37, (.ofNat 0), (.ofNat 8)), (46, (.negSucc 2147483647), (.ofNat 2147483647)), (47, (.negSucc 2147483647), (.ofNat 2147483647)), (48, (.negSucc 2147483647), (.ofNat 2147483647)), (49, (.negSucc 2147483647), (.ofNat 2147483647)), (50, (.negSucc 2147483647), (.ofNat 2147483647)), (51, (.negSucc 2147483647), (.ofNat 2147483647)), (52, (.ofNat 0), (.ofNat 3)), (53, (.negSucc 2147483647), (.ofNat 2147483647)), (54, (.negSucc 2147483647), (.ofNat 2147483647)), (55, (.negSucc 2147483647), (.ofNat 2147483647)), (56, (.negSucc 2147483647), (.ofNat 2147483647)), (57, (.ofNat 0), (.ofNat 1)), (58, (.negSucc 2147483647), (.ofNat 2147483647)), (59, (.negSucc 2147483647), (.ofNat 2147483647)), (60, (.negSucc 2147483647), (.ofNat 2147483647)), (61, (.negSucc 2147483647), (.ofNat 2147483647)), (62, (.negSucc 2147483647), (.ofNat 2147483647)), (64, (.negSucc 2147483647), (.ofNat 2147483647)), (65, (.negSucc 2147483647), (.ofNat 2147483647)), (66, (.negSucc 2147483647), (.ofNat 2147483647)), (67, (.negSucc 2147483647), (.ofNat 2147483647)), (69, (.negSucc 2147483647), (.ofNat 2147483647)), (70, (.negSucc 2147483647), (.ofNat 2147483647)), (71, (.negSucc 2147483647), (.ofNat 2147483647)), (72, (.negSucc 2147483647), (.ofNat 2147483647)), (74, (.negSucc 2147483647), (.ofNat 2147483647)), (75, (.negSucc 2147483647), (.ofNat 2147483647)), (76, (.negSucc 2147483647), (.ofNat 2147483647)), (77, (.negSucc 2147483647), (.ofNat 2147483647)), (79, (.negSucc 2147483647), (.ofNat 2147483647))], [], [.inr (.inl (some 0)), .inl (false, ((.ofNat 0), [(0, (.ofNat 1))])), .inl (false, ((.ofNat 0), [(1, (.ofNat 1))])), .inl (false, ((.ofNat 0), [(2, (.ofNat 1))])), .inl (false, ((.ofNat 0), [(3, (.ofNat 1))]))], [zc21,
    zc91,
    .inr (4, .inr (.inr [some 3, some 8])),
    zc92,
    zc44,
    zc118,
    zc46,
    zc47,
    zc175,
    zc49,
    zc95,
    zc51,
    zc52,
    zc176,
    zc54,
    zc55,
    zc56,
    zc57,
    zc97,
    zc59,
    zc60,
    .inl (4, [.inl (false, ((.ofNat 0), [(28, (.ofNat 1))])), .inr (.inl (some 22)), .inr (.inl (some 23)), .inr (.inl (some 24)), .inr (.inl (some 25))]),
    zc174,
    zc174,
    zc174,
    zc174,
    zc62,
    zc63,
    zc139,
    zc140,
    zc101,
    .inr (1, .inr (.inl 60)),
    zc141,
    zc102,
    zc68,
    zc69,
    zc70,
    zc71,
    zc72,
    zc73,
    zc74,
    zc142,
    zc77,
    zc143,
    zc144,
    zc79,
    zc145,
    zc146,
    zc147,
    zc148,
    zc84,
    zc149,
    zc86,
    zc87,
    zc126,
    zc127,
    zc128,
    zc22,
    .inr (1, .inr (.inl 6)),
    .inr (1, .inr (.inl 4)),
    .inr (6, .inr (.inr [none, none])),
    .inr (7, .inr (.inr [none, none]))], [(0, [4, 5, 6, 7], []), (0, [9, 10, 11, 12], [])]),
  [((87, [(85, (.negSucc 3), (.ofNat 5)), (86, (.ofNat 0), (.ofNat 6))], [], [.inl (false, ((.ofNat 0), [(85, (.ofNat 1))]))], [zc21,
    zc91,
    .inr (4, .inr (.inr [some 3, some 8])),
    zc92,
    zc44,
    zc118,
    zc46,
    zc47,
    zc175,
    zc49,
    zc95,
    zc51,
    zc52,
    zc176,
    zc54,
    zc55,
    zc56,
    zc57,
    zc97,
    zc59,
    zc60,
    .inl (4, [.inl (false, ((.ofNat 0), [(86, (.ofNat 1))])), .inr (.inl (some 22)), .inr (.inl (some 23)), .inr (.inl (some 24)), .inr (.inl (some 25))]),
    zc174,
    zc174,
    zc174,
    zc174,
    zc62,
    zc63,
    zc139,
    zc140,
    zc101,
    .inr (1, .inr (.inl 60)),
    zc141,
    zc102,
    zc68,
    zc69,
    zc70,
    zc71,
    zc72,
    zc73,
    zc74,
    zc142,
    zc77,
    zc143,
    zc144,
    zc79,
    zc145,
    zc146,
    zc147,
    zc148,
    zc84,
    zc149,
    zc86,
    zc87,
    zc126,
    zc127,
    zc128,
    zc22,
    .inr (1, .inr (.inl 6)),
    .inr (1, .inr (.inl 4)),
    .inr (6, .inr (.inr [none, none])),
    .inr (7, .inr (.inr [none, none]))], [(0, [4, 5, 6, 7], []), (0, [9, 10, 11, 12], [])]), 0, 0)])
noncomputable def c26_0_e : List Ct := [c12_0, c27_0]
noncomputable def c26_0_pts : List PE := []
set_option maxRecDepth 100000 in
theorem c26_0_k : enCtF c26_0 c26_0_e (c26_0_pts ++ []) (none) noH 3000 = true := by decide +kernel
set_option maxRecDepth 100000 in
theorem c26_0_v : ValidC PPk c26_0 := ct_ok fpk noH_ok (d := 1) (ext := []) (pts := c26_0_pts) (env := c26_0_e) rfl (List.forall_mem_cons.mpr ⟨⟨c12_0_v, Nat.le_of_ble_eq_true rfl⟩, List.forall_mem_cons.mpr ⟨⟨c27_0_v, Nat.le_of_ble_eq_true rfl⟩, fun _ h => (by cases h)⟩⟩) ext_nil (fun q h => (by cases h)) (enF c26_0_k) (fun _ h => (by cases h))

noncomputable def c28_0 : Ct := (28, 2, (87, [(0, (.negSucc 2147483647), (.ofNat 2147483647)), (1, (.negSucc 2147483647), (.ofNat 2147483647)), (2, (.ofNat 1), (.ofNat 4)), (3, (.negSucc 2147483647), (.ofNat 2147483647)), (4, (.negSucc 2147483647), (.ofNat 2147483647)), (5, (.ofNat 1), (.ofNat 1000)), (6, (.ofNat 0), (.ofNat 50)), (7, (.ofNat 0), (.ofNat 10)), (8, (.ofNat 0), (.ofNat 60)), (13, (.ofNat 0), (.ofNat 60)), (18, (.ofNat 0), (.ofNat 8)), (26, (.ofNat 0), (.ofNat 6)), (33, (.ofNat 0), (.ofNat 60)), (34, (.negSucc 2147483647), (.ofNat 2147483647)), (35, (.ofNat 0), (.ofNat 60)), (36, (.ofNat 0), (.ofNat 60)), (39, (.ofNat 0), (.ofNat 8)), (48, (.negSucc 2147483647), (.ofNat 2147483647)), (49, (.negSucc 2147483647), (.ofNat 2147483647)), (50, (.negSucc 2147483647), (.ofNat 2147483647)), (51, (.negSucc 2147483647), (.ofNat 2147483647)), (52, (.negSucc 2147483647), (.ofNat 2147483647)), (53, (.negSucc 2147483647), (.ofNat 2147483647)), (54, (.ofNat 0), (.ofNat 3)), (55, (.negSucc 2147483647), (.ofNat 2147483647)), (56, (.negSucc 2147483647), (.ofNat 2147483647)), (57, (.negSucc 2147483647), (.ofNat 2147483647)), (58, (.negSucc 2147483647), (.ofNat 2147483647)), (59, (.ofNat 0), (.ofNat 1)), (60, (.negSucc 2147483647), (.ofNat 2147483647)), (61, (.negSucc 2147483647), (.ofNat 2147483647)), (62, (.negSucc 2147483647), (.ofNat 2147483647)), (63, (.negSucc 2147483647), (.ofNat 2147483647)), (64, (.negSucc 2147483647), (.ofNat 2147483647)), (66, (.negSucc 2147483647), (.ofNat 2147483647)), (67, (.negSucc 2147483647), (.ofNat 2147483647)), (68, (.negSucc 2147483647), (.ofNat 2147483647)), (69, (.negSucc 2147483647), (.ofNat 2147483647)), (71, (.negSucc 2147483647), (.ofNat 2147483647)), (72, (.negSucc 2147483647), (.ofNat 2147483647)), (73, (.negSucc 2147483647), (.ofNat 2147483647)), (74, (.negSucc 2147483647), (.ofNat 2147483647)), (76, (.negSucc 2147483647), (.ofNat 2147483647)), (77, (.negSucc 2147483647), (.ofNat 2147483647)), (78, (.negSucc 2147483647), (.ofNat 2147483647)), (79, (.negSucc 2147483647), (.ofNat 2147483647)), (81, (.negSucc 2147483647), (.ofNat 2147483647))], [], [.inr (.inl (some 0)), .inl (false, ((.ofNat 0), [(0, (.ofNat 1))])), .inl (false, ((.ofNat 0), [(1, (.ofNat 1))]))], [zc21,
    zc155,
    .inr (4, .inr (.inr [some 3, some 8])),
    zc156,
    zc42,
    zc43,
    zc44,
    zc118,
    zc157,
    zc47,
    zc48,
    zc49,
    zc95,
    zc158,
    zc52,
    zc53,
    zc54,
    zc55,
    zc56,
    zc57,
    zc97,
    zc159,
    zc60,
    zc61,
    zc62,
    zc63,
    zc30,
    zc31,
    zc160,
    zc161,
    zc102,
    .inr (1, .inr (.inl 60)),
    zc162,
    zc69,
    zc70,
    zc71,
    zc72,
    zc73,
    zc74,
    zc75,
    zc163,
    zc164,
    zc77,
    zc165,
    zc166,
    zc167,
    zc168,
    zc169,
    zc170,
    zc171,
    zc86,
    zc172,
    zc126,
    zc127,
    zc128,
    zc129,
    zc173,
    zc22,
    .inr (1, .inr (.inl 6)),
    .inr (1, .inr (.inl 4)),
    .inr (6, .inr (.inr [none, none])),
    .inr (7, .inr (.inr [none, none]))], [(0, [4, 5, 6, 7], []), (0, [9, 10, 11, 12], [])]),
  [((90, [(87, (.negSucc 1), (.ofNat 1)), (88, (.negSucc 2147483647), (.ofNat 2147483647)), (89, (.negSucc 2147483647), (.ofNat 2147483647))], [], [.inl (false, ((.ofNat 0), [(87, (.ofNat 1))]))], [zc21,
    zc155,
    .inr (4, .inr (.inr [some 3, some 8])),
    zc156,
    zc42,
    zc43,
    zc44,
    zc118,
    zc157,
    zc47,
    zc48,
    zc49,
    zc95,
    zc158,
    zc52,
    zc53,
    zc54,
    zc55,
    zc56,
    zc57,
    zc97,
    zc159,
    zc60,
    zc61,
    zc62,
    zc63,
    zc30,
    zc31,
    zc160,
    zc161,
    zc102,
    .inr (1, .inr (.inl 60)),
    zc162,
    zc69,
    zc70,
    zc71,
    zc72,
    zc73,
    zc74,
    zc75,
    zc163,
    .inl (7, [.inr (.inl (some 42)), .inl (false, ((.ofNat 0), [(48, (.ofNat 1))])), .inr (.inl (some 51)), .inr (.inl (some 55)), .inr (.inl (some 56)), .inl (false, ((.ofNat 0), [(49, (.ofNat 1))])), .inl (false, ((.ofNat 0), [(88, (.ofNat 1))])), .inl (false, ((.ofNat 0), [(89, (.ofNat 1))])), .inl (false, ((.ofNat 0), [(52, (.ofNat 1))])), .inl (false, ((.ofNat 0), [(53, (.ofNat 1))])), .inl (false, ((.ofNat 0), [(54, (.ofNat 1))])), .inl (false, ((.ofNat 0), [(55, (.ofNat 1))])), .inl (false, ((.ofNat 0), [(56, (.ofNat 1))])), .inl (false, ((.ofNat 0), [(57, (.ofNat 1))])), .inl (false, ((.ofNat 0), [(58, (.ofNat 1))])), .inl (false, ((.ofNat 0), [(59, (.ofNat 1))])), .inl (false, ((.ofNat 0), [(60, (.ofNat 1))]))]),
    zc77,
    zc165,
    zc166,
    zc167,
    zc168,
    zc169,
    zc170,
    zc171,
    zc86,
    zc172,
    zc126,
    zc127,
    zc128,
    zc129,
    zc173,
    zc22,
    .inr (1, .inr (.inl 6)),
    .inr (1, .inr (.inl 4)),
    .inr (6, .inr (.inr [none, none])),
    .inr (7, .inr (.inr [none, none]))], [(0, [4, 5, 6, 7], []), (0, [9, 10, 11, 12], [])]), 0, 0)])
noncomputable def c28_0_e : List Ct := [c12_0]
noncomputable def c28_0_pts : List PE := []
set_option maxRecDepth 100000 in
theorem c28_0_k : enCtF c28_0 c28_0_e (c28_0_pts ++ []) (none) noH 3000 = true := by decide +kernel
set_option maxRecDepth 100000 in
theorem c28_0_v : ValidC PPk c28_0 := ct_ok fpk noH_ok (d := 1) (ext := []) (pts := c28_0_pts) (env := c28_0_e) rfl (List.forall_mem_cons.mpr ⟨⟨c12_0_v, Nat.le_of_ble_eq_true rfl⟩, fun _ h => (by cases h)⟩) ext_nil (fun q h => (by cases h)) (enF c28_0_k) (fun _ h => (by cases h))

def zc177 : AC := .inl (4, [.inl (false, ((.ofNat 0), [(27, (.ofNat 1))])), .inr (.inl (some 22)), .inr (.inl (some 23)), .inr (.inl (some 24)), .inr (.inl (some 25))])
def zc178 : AC := .inl (5, [.inl (false, ((.ofNat 0), [(34, (.ofNat 1))])), .inr (.inl (some 29)), .inl (false, ((.ofNat 0), [(35, (.ofNat 1))])), .inl (false, ((.ofNat 0), [(36, (.ofNat 1))])), .inl (false, ((.ofNat 0), [(37, (.ofNat 1))])), .inr (.inl (some 30)), .inr (.inl (some 31))])
def zc179 : AC := .inr (102, .inl [.inl ((.ofNat 0), [(38, (.ofNat 1))])])
def zc180 : AC := .inl (6, [.inl (false, ((.ofNat 0), [(40, (.ofNat 1))])), .inr (.inl (some 33)), .inr (.inl (some 34)), .inr (.inl (some 35)), .inr (.inl (some 36)), .inr (.inl (some 37))])
def zc181 : AC := .inr (100, .inl [.inl ((.ofNat 0), [(48, (.ofNat 1))])])
def zc182 : AC := .inl (8, [.inr (.inl (some 44)), .inl (false, ((.ofNat 0), [(62, (.ofNat 1))])), .inl (false, ((.ofNat 0), [(63, (.ofNat 1))])), .inl (false, ((.ofNat 0), [(64, (.ofNat 1))])), .inl (false, ((.ofNat 0), [(65, (.ofNat 1))]))])
def zc183 : AC := .inr (100, .inl [.inl ((.ofNat 0), [(66, (.ofNat 1))])])
def zc184 : AC := .inl (8, [.inr (.inl (some 46)), .inl (false, ((.ofNat 0), [(67, (.ofNat 1))])), .inl (false, ((.ofNat 0), [(68, (.ofNat 1))])), .inl (false, ((.ofNat 0), [(69, (.ofNat 1))])), .inl (false, ((.ofNat 0), [(70, (.ofNat 1))]))])
def zc185 : AC := .inr (100, .inl [.inl ((.ofNat 0), [(71, (.ofNat 1))])])
def zc186 : AC := .inl (8, [.inr (.inl (some 48)), .inl (false, ((.ofNat 0), [(72, (.ofNat 1))])), .inl (false, ((.ofNat 0), [(73, (.ofNat 1))])), .inl (false, ((.ofNat 0), [(74, (.ofNat 1))])), .inl (false, ((.ofNat 0), [(75, (.ofNat 1))]))])
def zc187 : AC := .inl (8, [.inr (.inl (some 50)), .inl (false, ((.ofNat 0), [(77, (.ofNat 1))])), .inl (false, ((.ofNat 0), [(78, (.ofNat 1))])), .inl (false, ((.ofNat 0), [(79, (.ofNat 1))])), .inl (false, ((.ofNat 0), [(80, (.ofNat 1))]))])
def zc188 : AC := .inl (9, [.inr (.inl (some 52)), .inr (.inl (some 53)), .inr (.inl (some 54)), .inl (false, ((.ofNat 0), [(82, (.ofNat 1))]))])
def zc189 : AC := .inr (100, .inl [.inl ((.ofNat 0), [(87, (.ofNat 1))])])
noncomputable def c29_0 : Ct := (29, 2, (88, [(0, (.negSucc 2147483647), (.ofNat 2147483647)), (1, (.negSucc 2147483647), (.ofNat 2147483647)), (2, (.negSucc 2147483647), (.ofNat 2147483647)), (3, (.ofNat 1), (.ofNat 4)), (4, (.negSucc 2147483647), (.ofNat 2147483647)), (5, (.negSucc 2147483647), (.ofNat 2147483647)), (6, (.ofNat 1), (.ofNat 1000)), (7, (.ofNat 0), (.ofNat 50)), (8, (.ofNat 0), (.ofNat 10)), (9, (.ofNat 0), (.ofNat 60)), (14, (.ofNat 0), (.ofNat 60)), (19, (.ofNat 0), (.ofNat 8)), (27, (.ofNat 0), (.ofNat 6)), (34, (.ofNat 0), (.ofNat 60)), (35, (.negSucc 2147483647), (.ofNat 2147483647)), (36, (.ofNat 0), (.ofNat 60)), (37, (.ofNat 0), (.ofNat 60)), (40, (.ofNat 0), (.ofNat 8)), (49, (.negSucc 2147483647), (.ofNat 2147483647)), (50, (.negSucc 2147483647), (.ofNat 2147483647)), (51, (.negSucc 2147483647), (.ofNat 2147483647)), (52, (.negSucc 2147483647), (.ofNat 2147483647)), (53, (.negSucc 2147483647), (.ofNat 2147483647)), (54, (.negSucc 2147483647), (.ofNat 2147483647)), (55, (.ofNat 0), (.ofNat 3)), (56, (.negSucc 2147483647), (.ofNat 2147483647)), (57, (.negSucc 2147483647), (.ofNat 2147483647)), (58, (.negSucc 2147483647), (.ofNat 2147483647)), (59, (.negSucc 2147483647), (.ofNat 2147483647)), (60, (.ofNat 0), (.ofNat 1)), (61, (.negSucc 2147483647), (.ofNat 2147483647)), (62, (.negSucc 2147483647), (.ofNat 2147483647)), (63, (.negSucc 2147483647), (.ofNat 2147483647)), (64, (.negSucc 2147483647), (.ofNat 2147483647)), (65, (.negSucc 2147483647), (.ofNat 2147483647)), (67, (.negSucc 2147483647), (.ofNat 2147483647)), (68, (.negSucc 2147483647), (.ofNat 2147483647)), (69, (.negSucc 2147483647), (.ofNat 2147483647)), (70, (.negSucc 2147483647), (.ofNat 2147483647)), (72, (.negSucc 2147483647), (.ofNat 2147483647)), (73, (.negSucc 2147483647), (.ofNat 2147483647)), (74, (.negSucc 2147483647), (.ofNat 2147483647)), (75, (.negSucc 2147483647), (.ofNat 2147483647)), (77, (.negSucc 2147483647), (.ofNat 2147483647)), (78, (.negSucc 2147483647), (.ofNat 2147483647)), (79, (.negSucc 2147483647), (.ofNat 2147483647)), (80, (.negSucc 2147483647), (.ofNat 2147483647)), (82, (.negSucc 2147483647), (.ofNat 2147483647))], [], [.inr (.inl (some 0)), .inl (false, ((.ofNat 0), [(0, (.ofNat 1))])), .inl (false, ((.ofNat 0), [(1, (.ofNat 1))])), .inl (false, ((.ofNat 0), [(2, (.ofNat 1))]))], [zc21,
    zc116,
    .inr (4, .inr (.inr [some 3, some 8])),
    zc117,
    zc43,
    zc44,
    zc118,
    zc46,
    zc119,
    zc48,
    zc49,
    zc95,
    zc51,
    zc120,
    zc53,
    zc54,
    zc55,
    zc56,
    zc57,
    zc97,
    zc59,
    zc177,
    zc61,
    zc62,
    zc63,
    zc30,
    zc31,
    zc32,
    zc178,
    zc179,
    zc68,
    .inr (1, .inr (.inl 60)),
    zc180,
    zc70,
    zc71,
    zc72,
    zc73,
    zc74,
    zc75,
    zc163,
    zc181,
    .inl (7, [.inr (.inl (some 42)), .inl (false, ((.ofNat 0), [(49, (.ofNat 1))])), .inr (.inl (some 51)), .inr (.inl (some 55)), .inr (.inl (some 56)), .inl (false, ((.ofNat 0), [(50, (.ofNat 1))])), .inl (false, ((.ofNat 0), [(51, (.ofNat 1))])), .inl (false, ((.ofNat 0), [(52, (.ofNat 1))])), .inl (false, ((.ofNat 0), [(53, (.ofNat 1))])), .inl (false, ((.ofNat 0), [(54, (.ofNat 1))])), .inl (false, ((.ofNat 0), [(55, (.ofNat 1))])), .inl (false, ((.ofNat 0), [(56, (.ofNat 1))])), .inl (false, ((.ofNat 0), [(57, (.ofNat 1))])), .inl (false, ((.ofNat 0), [(58, (.ofNat 1))])), .inl (false, ((.ofNat 0), [(59, (.ofNat 1))])), .inl (false, ((.ofNat 0), [(60, (.ofNat 1))])), .inl (false, ((.ofNat 0), [(61, (.ofNat 1))]))]),
    zc77,
    zc182,
    zc183,
    zc184,
    zc185,
    zc186,
    zc113,
    zc187,
    zc87,
    zc188,
    zc127,
    zc128,
    zc129,
    zc173,
    zc189,
    zc22,
    .inr (1, .inr (.inl 6)),
    .inr (1, .inr (.inl 4)),
    .inr (6, .inr (.inr [none, none])),
    .inr (7, .inr (.inr [none, none]))], [(0, [4, 5, 6, 7], []), (0, [9, 10, 11, 12], [])]),
  [((92, [(88, (.negSucc 1), (.ofNat 1)), (89, (.ofNat 1), (.ofNat 1000)), (90, (.ofNat 0), (.ofNat 50)), (91, (.negSucc 2147483647), (.ofNat 2147483647))], [], [.inl (false, ((.ofNat 0), [(88, (.ofNat 1))]))], [zc21,
    .inl (1, [.inl (false, ((.ofNat 0), [(3, (.ofNat 1))])), .inr (.inl (some 2)), .inr (.inl (some 13)), .inr (.inl (some 19)), .inr (.inl (some 20)), .inl (false, ((.ofNat 0), [(4, (.ofNat 1))])), .inl (false, ((.ofNat 0), [(5, (.ofNat 1))])), .inr (.inl (some 21)), .inl (false, ((.ofNat 0), [(89, (.ofNat 1))])), .inl (false, ((.ofNat 0), [(90, (.ofNat 1))])), .inr (.inl (some 26)), .inr (.inl (some 27)), .inr (.inl (some 28)), .inr (.inl (some 32)), .inl (false, ((.ofNat 0), [(8, (.ofNat 1))])), .inr (.inl (some 38)), .inr (.inl (some 39)), .inr (.inl (some 40))]),
    .inr (4, .inr (.inr [some 3, some 8])),
    zc117,
    zc43,
    zc44,
    zc118,
    zc46,
    zc119,
    zc48,
    zc49,
    zc95,
    zc51,
    zc120,
    zc53,
    zc54,
    zc55,
    zc56,
    zc57,
    zc97,
    zc59,
    zc177,
    zc61,
    zc62,
    zc63,
    zc30,
    zc31,
    zc32,
    zc178,
    zc179,
    zc68,
    .inr (1, .inr (.inl 60)),
    zc180,
    zc70,
    zc71,
    zc72,
    zc73,
    zc74,
    zc75,
    zc163,
    zc181,
    .inl (7, [.inr (.inl (some 42)), .inl (false, ((.ofNat 0), [(49, (.ofNat 1))])), .inr (.inl (some 51)), .inr (.inl (some 55)), .inr (.inl (some 56)), .inl (false, ((.ofNat 0), [(50, (.ofNat 1))])), .inl (false, ((.ofNat 0), [(51, (.ofNat 1))])), .inl (false, ((.ofNat 0), [(52, (.ofNat 1))])), .inl (false, ((.ofNat 0), [(91, (.ofNat 1))])), .inl (false, ((.ofNat 0), [(54, (.ofNat 1))])), .inl (false, ((.ofNat 0), [(55, (.ofNat 1))])), .inl (false, ((.ofNat 0), [(56, (.ofNat 1))])), .inl (false, ((.ofNat 0), [(57, (.ofNat 1))])), .inl (false, ((.ofNat 0), [(58, (.ofNat 1))])), .inl (false, ((.ofNat 0), [(59, (.ofNat 1))])), .inl (false, ((.ofNat 0), [(60, (.ofNat 1))])), .inl (false, ((.ofNat 0), [(61, (.ofNat 1))]))]),
    zc77,
    zc182,
    zc183,
    zc184,
    zc185,
    zc186,
    zc113,
    zc187,
    zc87,
    zc188,
    zc127,
    zc128,
    zc129,
    zc173,
    zc189,
    zc22,
    .inr (1, .inr (.inl 6)),
    .inr (1, .inr (.inl 4)),
    .inr (6, .inr (.inr [none, none])),
    .inr (7, .inr (.inr [none, none]))], [(0, [4, 5, 6, 7], []), (0, [9, 10, 11, 12], [])]), 0, 0)])
noncomputable def c29_0_e : List Ct := [c12_0]
noncomputable def c29_0_pts : List PE := []
set_option maxRecDepth 100000 in
theorem c29_0_k : enCtF c29_0 c29_0_e (c29_0_pts ++ []) (none) noH 3000 = true := by decide +kernel
set_option maxRecDepth 100000 in
theorem c29_0_v : ValidC PPk c29_0 := ct_ok fpk noH_ok (d := 1) (ext := []) (pts := c29_0_pts) (env := c29_0_e) rfl (List.forall_mem_cons.mpr ⟨⟨c12_0_v, Nat.le_of_ble_eq_true rfl⟩, fun _ h => (by cases h)⟩) ext_nil (fun q h => (by cases h)) (enF c29_0_k) (fun _ h => (by cases h))

def zc190 : AC := .inr (0, .inl [.inr (4, (.negSucc 2147483647), (.ofNat 2147483647))])
noncomputable def c30_0 : Ct := (30, 2, (86, [(0, (.negSucc 2147483647), (.ofNat 2147483647)), (1, (.negSucc 2147483647), (.ofNat 2147483647)), (2, (.negSucc 2147483647), (.ofNat 2147483647)), (3, (.ofNat 1), (.ofNat 4)), (4, (.negSucc 2147483647), (.ofNat 2147483647)), (5, (.negSucc 2147483647), (.ofNat 2147483647)), (6, (.ofNat 1), (.ofNat 1000)), (7, (.ofNat 0), (.ofNat 50)), (8, (.ofNat 0), (.ofNat 10)), (9, (.ofNat 0), (.ofNat 60)), (14, (.ofNat 0), (.ofNat 60)), (19, (.ofNat 0), (.ofNat 8)), (27, (.ofNat 0), (.ofNat 6)), (32, (.ofNat 0), (.ofNat 60)), (33, (.negSucc 2147483647), (.ofNat 2147483647)), (34, (.ofNat 0), (.ofNat 60)), (35, (.ofNat 0), (.ofNat 60)), (38, (.ofNat 0), (.ofNat 8)), (47, (.negSucc 2147483647), (.ofNat 2147483647)), (48, (.negSucc 2147483647), (.ofNat 2147483647)), (49, (.negSucc 2147483647), (.ofNat 2147483647)), (50, (.negSucc 2147483647), (.ofNat 2147483647)), (51, (.negSucc 2147483647), (.ofNat 2147483647)), (52, (.negSucc 2147483647), (.ofNat 2147483647)), (53, (.ofNat 0), (.ofNat 3)), (54, (.negSucc 2147483647), (.ofNat 2147483647)), (55, (.negSucc 2147483647), (.ofNat 2147483647)), (56, (.negSucc 2147483647), (.ofNat 2147483647)), (57, (.negSucc 2147483647), (.ofNat 2147483647)), (58, (.ofNat 0), (.ofNat 1)), (59, (.negSucc 2147483647), (.ofNat 2147483647)), (60, (.negSucc 2147483647), (.ofNat 2147483647)), (61, (.negSucc 2147483647), (.ofNat 2147483647)), (62, (.negSucc 2147483647), (.ofNat 2147483647)), (63, (.negSucc 2147483647), (.ofNat 2147483647)), (65, (.negSucc 2147483647), (.ofNat 2147483647)), (66, (.negSucc 2147483647), (.ofNat 2147483647)), (67, (.negSucc 2147483647), (.ofNat 2147483647)), (68, (.negSucc 2147483647), (.ofNat 2147483647)), (70, (.negSucc 2147483647), (.ofNat 2147483647)), (71, (.negSucc 2147483647), (.ofNat 2147483647)), (72, (.negSucc 2147483647), (.ofNat 2147483647)), (73, (.negSucc 2147483647), (.ofNat 2147483647)), (75, (.negSucc 2147483647), (.ofNat 2147483647)), (76, (.negSucc 2147483647), (.ofNat 2147483647)), (77, (.negSucc 2147483647), (.ofNat 2147483647)), (78, (.negSucc 2147483647), (.ofNat 2147483647)), (80, (.negSucc 2147483647), (.ofNat 2147483647))], [], [.inr (.inl (some 0)), .inl (false, ((.ofNat 0), [(0, (.ofNat 1))])), .inl (false, ((.ofNat 0), [(1, (.ofNat 1))])), .inl (false, ((.ofNat 0), [(2, (.ofNat 1))]))], [zc21,
    zc116,
    .inr (4, .inr (.inr [some 3, some 8])),
    zc117,
    zc43,
    zc44,
    zc118,
    zc46,
    zc119,
    zc48,
    zc49,
    zc95,
    zc51,
    zc120,
    zc53,
    zc54,
    zc55,
    zc56,
    zc57,
    zc97,
    zc59,
    zc177,
    zc61,
    zc62,
    zc63,
    zc30,
    zc190,
    zc190,
    zc64,
    zc65,
    zc66,
    .inr (1, .inr (.inl 60)),
    zc67,
    zc68,
    zc69,
    zc70,
    zc71,
    zc72,
    zc73,
    zc74,
    zc75,
    zc76,
    zc77,
    zc78,
    zc107,
    zc122,
    zc109,
    zc123,
    zc111,
    zc124,
    zc85,
    zc125,
    zc87,
    zc126,
    zc127,
    zc128,
    zc129,
    zc22,
    .inr (1, .inr (.inl 6)),
    .inr (1, .inr (.inl 4)),
    .inr (6, .inr (.inr [none, none])),
    .inr (7, .inr (.inr [none, none]))], [(0, [4, 5, 6, 7], []), (0, [9, 10, 11, 12], [])]),
  [((87, [(86, (.negSucc 1), (.ofNat 1))], [], [.inl (false, ((.ofNat 0), [(86, (.ofNat 1))]))], [zc21,
    zc116,
    .inr (4, .inr (.inr [some 3, some 8])),
    zc117,
    zc43,
    zc44,
    zc118,
    zc46,
    zc119,
    zc48,
    zc49,
    zc95,
    zc51,
    zc120,
    zc53,
    zc54,
    zc55,
    zc56,
    zc57,
    zc97,
    zc59,
    zc177,
    zc61,
    zc62,
    zc63,
    zc30,
    zc190,
    zc190,
    zc64,
    zc65,
    zc66,
    .inr (1, .inr (.inl 60)),
    zc67,
    zc68,
    zc69,
    zc70,
    zc71,
    zc72,
    zc73,
    zc74,
    zc75,
    zc76,
    zc77,
    zc78,
    zc107,
    zc122,
    zc109,
    zc123,
    zc111,
    zc124,
    zc85,
    zc125,
    zc87,
    zc126,
    zc127,
    zc128,
    zc129,
    zc22,
    .inr (1, .inr (.inl 6)),
    .inr (1, .inr (.inl 4)),
    .inr (6, .inr (.inr [none, none])),
    .inr (7, .inr (.inr [none, none]))], [(0, [4, 5, 6, 7], []), (0, [9, 10, 11, 12], [])]), 0, 0)])
noncomputable def c30_0_e : List Ct := [c12_0]
noncomputable def c30_0_pts : List PE := []
set_option maxRecDepth 100000 in
theorem c30_0_k : enCtF c30_0 c30_0_e (c30_0_pts ++ []) (none) noH 3000 = true := by decide +kernel
set_option maxRecDepth 100000 in
theorem c30_0_v : ValidC PPk c30_0 := ct_ok fpk noH_ok (d := 1) (ext := []) (pts := c30_0_pts) (env := c30_0_e) rfl (List.forall_mem_cons.mpr ⟨⟨c12_0_v, Nat.le_of_ble_eq_true rfl⟩, fun _ h => (by cases h)⟩) ext_nil (fun q h => (by cases h)) (enF c30_0_k) (fun _ h => (by cases h))

def zc191 : AC := .inl (5, [.inl (false, ((.ofNat 0), [(0, (.ofNat 1))])), .inr (.inl (some 1)), .inl (false, ((.ofNat 0), [(1, (.ofNat 1))])), .inl (false, ((.ofNat 0), [(2, (.ofNat 1))])), .inl (false, ((.ofNat 0), [(3, (.ofNat 1))])), .inr (.inl (some 2)), .inr (.inl (some 3))])
def zc192 : AC := .inr (2, .inl [.inr (60, (.ofNat 0), (.ofNat 127))])
def zc193 : AC := .inl (5, [.inl (false, ((.ofNat 0), [(0, (.ofNat 1))])), .inr (.inl (some 1)), .inl (false, ((.ofNat 0), [(1, (.ofNat 1))])), .inl (false, ((.ofNat 0), [(5, (.ofNat 1))])), .inl (false, ((.ofNat 0), [(3, (.ofNat 1))])), .inr (.inl (some 2)), .inr (.inl (some 3))])
def zc194 : AC := .inl (5, [.inl (false, ((.ofNat 0), [(0, (.ofNat 1))])), .inr (.inl (some 1)), .inl (false, ((.ofNat 0), [(1, (.ofNat 1))])), .inl (false, ((.ofNat 0), [(6, (.ofNat 1))])), .inl (false, ((.ofNat 0), [(3, (.ofNat 1))])), .inr (.inl (some 2)), .inr (.inl (some 3))])
noncomputable def c40_0 : Ct := (40, 1, (5, [(0, (.ofNat 0), (.ofNat 60)), (1, (.negSucc 2147483647), (.ofNat 2147483647)), (2, (.ofNat 0), (.ofNat 60)), (3, (.ofNat 0), (.ofNat 60))], [], [.inr (.inl (some 0))], [zc191,
    zc192,
    zc132,
    .inr (1, .inr (.inl 60))], []),
  [((6, [(5, (.ofNat 0), (.ofNat 60))], [], [.inl (false, ((.negSucc 0), []))], [zc193,
    zc192,
    zc132,
    .inr (1, .inr (.inl 60))], []), 0, 0),
   ((7, [(0, (.ofNat 1), (.ofNat 60)), (1, (.negSucc 0), (.negSucc 0)), (5, (.ofNat 0), (.ofNat 127)), (6, (.ofNat 0), (.ofNat 59))], [((.ofNat 1), [(0, (.negSucc 0)), (6, (.ofNat 1))])], [.inl (false, ((.ofNat 0), [(5, (.ofNat 1))]))], [zc194,
    zc192,
    zc132,
    .inr (1, .inr (.inl 60))], []), 0, 0)])
noncomputable def c40_0_e : List Ct := []
noncomputable def c40_0_p0 : PE := (10, [0], (6, [(0, (.ofNat 0), (.ofNat 60)), (1, (.negSucc 0), (.negSucc 0)), (2, (.ofNat 0), (.ofNat 60)), (3, (.ofNat 0), (.ofNat 60)), (5, (.ofNat 0), (.ofNat 60))], [], [.inr (.inl (some 0))], [zc193,
    zc192,
    zc132,
    .inr (1, .inr (.inl 60))], []), symsL 5 0, some ((.ofNat 121), [(5, (.negSucc 0))]), 0, 0)
noncomputable def c40_0_pts : List PE := [c40_0_p0]
set_option maxRecDepth 100000 in
theorem c40_0_k : enCtF c40_0 c40_0_e (c40_0_pts ++ []) (none) (noF, noM, 1024, 0, 5) 3000 = true := by decide +kernel
set_option maxRecDepth 100000 in
theorem c40_0_k0 : ptCtF c40_0 c40_0_e (c40_0_pts ++ []) (noF, noM, 1024, 0, 5) 3000 c40_0_p0 = true := by decide +kernel
set_option maxRecDepth 100000 in
theorem c40_0_v : ValidC PPk c40_0 := ct_ok fpk ⟨noF_ok, noM_ok⟩ (d := 0) (ext := []) (pts := c40_0_pts) (env := c40_0_e) rfl (fun _ h => (by cases h)) ext_nil (fun q h => (by cases h)) (enF c40_0_k) (List.forall_mem_cons.mpr ⟨ptF c40_0_k0, fun _ h => (by cases h)⟩)

def zc195 : AC := .inr (102, .inl [.inl ((.ofNat 0), [(6, (.ofNat 1))])])
noncomputable def c43_0 : Ct := (43, 1, (8, [(0, (.negSucc 2147483647), (.ofNat 2147483647)), (1, (.negSucc 2147483647), (.ofNat 2147483647)), (2, (.ofNat 0), (.ofNat 60)), (3, (.negSucc 2147483647), (.ofNat 2147483647)), (4, (.ofNat 0), (.ofNat 60)), (5, (.ofNat 0), (.ofNat 60))], [], [.inr (.inl (some 0)), .inl (false, ((.ofNat 0), [(0, (.ofNat 1))])), .inl (false, ((.ofNat 0), [(1, (.ofNat 1))]))], [.inl (5, [.inl (false, ((.ofNat 0), [(2, (.ofNat 1))])), .inr (.inl (some 1)), .inl (false, ((.ofNat 0), [(3, (.ofNat 1))])), .inl (false, ((.ofNat 0), [(4, (.ofNat 1))])), .inl (false, ((.ofNat 0), [(5, (.ofNat 1))])), .inr (.inl (some 2)), .inr (.inl (some 3))]),
    zc195,
    zc152,
    .inr (1, .inr (.inl 60))], []),
  [((9, [(8, (.negSucc 2147483647), (.ofNat 2147483647))], [], [], [.inl (5, [.inl (false, ((.ofNat 0), [(2, (.ofNat 1))])), .inr (.inl (some 1)), .inl (false, ((.ofNat 0), [(8, (.ofNat 1))])), .inl (false, ((.ofNat 0), [(4, (.ofNat 1))])), .inl (false, ((.ofNat 0), [(5, (.ofNat 1))])), .inr (.inl (some 2)), .inr (.inl (some 3))]),
    zc195,
    zc152,
    .inr (1, .inr (.inl 60))], []), 0, 0)])
noncomputable def c43_0_e : List Ct := []
noncomputable def c43_0_pts : List PE := []
set_option maxRecDepth 100000 in
theorem c43_0_k : enCtF c43_0 c43_0_e (c43_0_pts ++ []) (none) noH 3000 = true := by decide +kernel
set_option maxRecDepth 100000 in
theorem c43_0_v : ValidC PPk c43_0 := ct_ok fpk noH_ok (d := 0) (ext := []) (pts := c43_0_pts) (env := c43_0_e) rfl (fun _ h => (by cases h)) ext_nil (fun q h => (by cases h)) (enF c43_0_k) (fun _ h => (by cases h))

def zc196 : AC := .inr (102, .inl [.inl ((.ofNat 0), [(4, (.ofNat 1))])])
def zc197 : AC := .inl (5, [.inl (false, ((.ofNat 0), [(0, (.ofNat 1))])), .inr (.inl (some 1)), .inl (false, ((.ofNat 0), [(6, (.ofNat 1))])), .inl (false, ((.ofNat 0), [(2, (.ofNat 1))])), .inl (false, ((.ofNat 0), [(3, (.ofNat 1))])), .inr (.inl (some 2)), .inr (.inl (some 3))])
noncomputable def c45_0 : Ct := (45, 2, (6, [(0, (.ofNat 0), (.ofNat 60)), (1, (.negSucc 2147483647), (.ofNat 2147483647)), (2, (.ofNat 0), (.ofNat 60)), (3, (.ofNat 0), (.ofNat 60))], [((.ofNat 1), [(0, (.negSucc 0)), (2, (.ofNat 1))])], [.inr (.inl (some 0)), .inl (false, ((.ofNat 8), []))], [zc191,
    zc196,
    zc133,
    .inr (1, .inr (.inl 60))], []),
  [((7, [(6, (.negSucc 2147483647), (.ofNat 2147483647))], [], [], [zc197,
    zc196,
    zc133,
    .inr (1, .inr (.inl 60))], []), 0, 0)])
noncomputable def c45_0_e : List Ct := [c43_0]
noncomputable def c45_0_pts : List PE := []
set_option maxRecDepth 100000 in
theorem c45_0_k : enCtF c45_0 c45_0_e (c45_0_pts ++ []) (none) noH 3000 = true := by decide +kernel
set_option maxRecDepth 100000 in
theorem c45_0_v : ValidC PPk c45_0 := ct_ok fpk noH_ok (d := 1) (ext := []) (pts := c45_0_pts) (env := c45_0_e) rfl (List.forall_mem_cons.mpr ⟨⟨c43_0_v, Nat.le_of_ble_eq_true rfl⟩, fun _ h => (by cases h)⟩) ext_nil (fun q h => (by cases h)) (enF c45_0_k) (fun _ h => (by cases h))

def zc198 : AC := .inl (5, [.inl (false, ((.ofNat 0), [(1, (.ofNat 1))])), .inr (.inl (some 1)), .inl (false, ((.ofNat 0), [(2, (.ofNat 1))])), .inl (false, ((.ofNat 0), [(3, (.ofNat 1))])), .inl (false, ((.ofNat 0), [(4, (.ofNat 1))])), .inr (.inl (some 2)), .inr (.inl (some 3))])
def zc199 : AC := .inr (102, .inl [.inl ((.ofNat 0), [(5, (.ofNat 1))])])
noncomputable def c44_0 : Ct := (44, 1, (6, [(0, (.negSucc 2147483647), (.ofNat 2147483647)), (1, (.ofNat 0), (.ofNat 60)), (2, (.negSucc 2147483647), (.ofNat 2147483647)), (3, (.ofNat 0), (.ofNat 60)), (4, (.ofNat 0), (.ofNat 60))], [], [.inr (.inl (some 0)), .inl (false, ((.ofNat 0), [(0, (.ofNat 1))]))], [zc198,
    zc199,
    zc89,
    .inr (1, .inr (.inl 60))], []),
  [((7, [(6, (.ofNat 1), (.ofNat 60))], [], [], [.inl (5, [.inl (false, ((.ofNat 0), [(1, (.ofNat 1))])), .inr (.inl (some 1)), .inl (false, ((.ofNat 0), [(2, (.ofNat 1))])), .inl (false, ((.ofNat 0), [(3, (.ofNat 1))])), .inl (false, ((.ofNat 0), [(6, (.ofNat 1))])), .inr (.inl (some 2)), .inr (.inl (some 3))]),
    zc199,
    zc89,
    .inr (1, .inr (.inl 60))], []), 0, 0)])
noncomputable def c44_0_e : List Ct := []
noncomputable def c44_0_pts : List PE := []
set_option maxRecDepth 100000 in
theorem c44_0_k : enCtF c44_0 c44_0_e (c44_0_pts ++ []) (none) noH 3000 = true := by decide +kernel
set_option maxRecDepth 100000 in
theorem c44_0_v : ValidC PPk c44_0 := ct_ok fpk noH_ok (d := 0) (ext := []) (pts := c44_0_pts) (env := c44_0_e) rfl (fun _ h => (by cases h)) ext_nil (fun q h => (by cases h)) (enF c44_0_k) (fun _ h => (by cases h))

def zc200 : AC := .inl (5, [.inl (false, ((.ofNat 0), [(0, (.ofNat 1))])), .inr (.inl (some 1)), .inl (false, ((.ofNat 0), [(4, (.ofNat 1))])), .inl (false, ((.ofNat 0), [(5, (.ofNat 1))])), .inl (false, ((.ofNat 0), [(6, (.ofNat 1))])), .inr (.inl (some 2)), .inr (.inl (some 3))])
noncomputable def c42_0 : Ct := (42, 2, (4, [(0, (.ofNat 0), (.ofNat 60)), (1, (.negSucc 2147483647), (.ofNat 2147483647)), (2, (.ofNat 0), (.ofNat 60)), (3, (.ofNat 0), (.ofNat 60))], [], [.inr (.inl (some 0))], [zc191,
    zc192,
    zc89,
    .inr (1, .inr (.inl 60))], []),
  [((7, [(4, (.negSucc 2147483647), (.ofNat 2147483647)), (5, (.ofNat 0), (.ofNat 60)), (6, (.ofNat 0), (.ofNat 60))], [], [], [zc200,
    zc192,
    zc89,
    .inr (1, .inr (.inl 60))], []), 0, 0)])
noncomputable def c42_0_e : List Ct := [c43_0, c44_0]
noncomputable def c42_0_p0 : PE := (7, [0, 1, 2], (6, [(0, (.ofNat 0), (.ofNat 60)), (1, (.negSucc 2147483647), (.ofNat 2147483647)), (2, (.ofNat 0), (.ofNat 60)), (3, (.ofNat 0), (.ofNat 60)), (4, (.negSucc 2147483647), (.ofNat 2147483647)), (5, (.ofNat 0), (.ofNat 60))], [], [.inr (.inl (some 0)), .inl (false, ((.ofNat 0), [(2, (.ofNat 1))])), .inl (false, ((.ofNat 0), [(4, (.ofNat 1))]))], [zc193,
    zc192,
    zc89,
    .inr (1, .inr (.inl 60))], []), symsL 4 0, some ((.ofNat 121), [(5, (.negSucc 0))]), 0, 0)
noncomputable def c42_0_pts : List PE := [c42_0_p0]
set_option maxRecDepth 100000 in
theorem c42_0_k : enCtF c42_0 c42_0_e (c42_0_pts ++ []) (none) (noF, noM, 128, 0, 4) 3000 = true := by decide +kernel
set_option maxRecDepth 100000 in
theorem c42_0_k0 : ptCtF c42_0 c42_0_e (c42_0_pts ++ []) (noF, noM, 128, 0, 4) 3000 c42_0_p0 = true := by decide +kernel
set_option maxRecDepth 100000 in
theorem c42_0_v : ValidC PPk c42_0 := ct_ok fpk ⟨noF_ok, noM_ok⟩ (d := 1) (ext := []) (pts := c42_0_pts) (env := c42_0_e) rfl (List.forall_mem_cons.mpr ⟨⟨c43_0_v, Nat.le_of_ble_eq_true rfl⟩, List.forall_mem_cons.mpr ⟨⟨c44_0_v, Nat.le_of_ble_eq_true rfl⟩, fun _ h => (by cases h)⟩⟩) ext_nil (fun q h => (by cases h)) (enF c42_0_k) (List.forall_mem_cons.mpr ⟨ptF c42_0_k0, fun _ h => (by cases h)⟩)

def zc201 : AC := .inl (5, [.inl (false, ((.ofNat 0), [(1, (.ofNat 1))])), .inr (.inl (some 1)), .inl (false, ((.ofNat 0), [(5, (.ofNat 1))])), .inl (false, ((.ofNat 0), [(6, (.ofNat 1))])), .inl (false, ((.ofNat 0), [(7, (.ofNat 1))])), .inr (.inl (some 2)), .inr (.inl (some 3))])
noncomputable def c41_0 : Ct := (41, 3, (5, [(0, (.negSucc 2147483647), (.ofNat 2147483647)), (1, (.ofNat 0), (.ofNat 60)), (2, (.negSucc 2147483647), (.ofNat 2147483647)), (3, (.ofNat 0), (.ofNat 60)), (4, (.ofNat 0), (.ofNat 60))], [((.ofNat 1), [(1, (.negSucc 0)), (3, (.ofNat 1))])], [.inr (.inl (some 0)), .inl (false, ((.ofNat 0), [(0, (.ofNat 1))])), .inl (false, ((.ofNat 8), []))], [zc198,
    zc192,
    zc89,
    .inr (1, .inr (.inl 60))], []),
  [((8, [(5, (.negSucc 2147483647), (.ofNat 2147483647)), (6, (.ofNat 0), (.ofNat 60)), (7, (.ofNat 0), (.ofNat 60))], [], [], [zc201,
    zc192,
    zc89,
    .inr (1, .inr (.inl 60))], []), 0, 0)])
noncomputable def c41_0_e : List Ct := [c42_0, c43_0, c44_0, c45_0]
noncomputable def c41_0_pts : List PE := []
set_option maxRecDepth 100000 in
theorem c41_0_k : enCtF c41_0 c41_0_e (c41_0_pts ++ []) (none) noH 3000 = true := by decide +kernel
set_option maxRecDepth 100000 in
theorem c41_0_v : ValidC PPk c41_0 := ct_ok fpk noH_ok (d := 2) (ext := []) (pts := c41_0_pts) (env := c41_0_e) rfl (List.forall_mem_cons.mpr ⟨⟨c42_0_v, Nat.le_of_ble_eq_true rfl⟩, List.forall_mem_cons.mpr ⟨⟨c43_0_v, Nat.le_of_ble_eq_true rfl⟩, List.forall_mem_cons.mpr ⟨⟨c44_0_v, Nat.le_of_ble_eq_true rfl⟩, List.forall_mem_cons.mpr ⟨⟨c45_0_v, Nat.le_of_ble_eq_true rfl⟩, fun _ h => (by cases h)⟩⟩⟩⟩) ext_nil (fun q h => (by cases h)) (enF c41_0_k) (fun _ h => (by cases h))

noncomputable def c41_1 : Ct := (41, 2, (6, [(0, (.ofNat 0), (.ofNat 60)), (1, (.negSucc 2147483647), (.ofNat 2147483647)), (2, (.ofNat 0), (.ofNat 60)), (3, (.ofNat 0), (.ofNat 60))], [], [.inr (.inl (some 0)), .inl (false, ((.negSucc 0), [])), .inl (false, ((.ofNat 8), []))], [zc191,
    zc196,
    zc133,
    .inr (1, .inr (.inl 60))], []),
  [((7, [(6, (.negSucc 2147483647), (.ofNat 2147483647))], [], [], [zc197,
    zc196,
    zc133,
    .inr (1, .inr (.inl 60))], []), 0, 0)])
noncomputable def c41_1_e : List Ct := [c43_0]
noncomputable def c41_1_pts : List PE := []
set_option maxRecDepth 100000 in
theorem c41_1_k : enCtF c41_1 c41_1_e (c41_1_pts ++ []) (none) noH 3000 = true := by decide +kernel
set_option maxRecDepth 100000 in
theorem c41_1_v : ValidC PPk c41_1 := ct_ok fpk noH_ok (d := 1) (ext := []) (pts := c41_1_pts) (env := c41_1_e) rfl (List.forall_mem_cons.mpr ⟨⟨c43_0_v, Nat.le_of_ble_eq_true rfl⟩, fun _ h => (by cases h)⟩) ext_nil (fun q h => (by cases h)) (enF c41_1_k) (fun _ h => (by cases h))

def zc202 : AC := .inl (5, [.inl (false, ((.ofNat 0), [(0, (.ofNat 1))])), .inr (.inl (some 1)), .inl (false, ((.ofNat 0), [(7, (.ofNat 1))])), .inl (false, ((.ofNat 0), [(8, (.ofNat 1))])), .inl (false, ((.ofNat 0), [(9, (.ofNat 1))])), .inr (.inl (some 2)), .inr (.inl (some 3))])
noncomputable def c39_0 : Ct := (39, 4, (4, [(0, (.ofNat 0), (.ofNat 60)), (1, (.negSucc 2147483647), (.ofNat 2147483647)), (2, (.ofNat 0), (.ofNat 60)), (3, (.ofNat 0), (.ofNat 60))], [], [.inr (.inl (some 0)), .inl (false, ((.ofNat 8), []))], [zc191,
    zc192,
    zc89,
    .inr (1, .inr (.inl 60))], []),
  [((7, [(4, (.negSucc 2147483647), (.ofNat 2147483647)), (5, (.ofNat 0), (.ofNat 60)), (6, (.ofNat 0), (.ofNat 60))], [], [], [zc200,
    zc192,
    zc89,
    .inr (1, .inr (.inl 60))], []), 0, 0)])
noncomputable def c39_0_e : List Ct := [c40_0, c41_0, c41_1, c44_0]
noncomputable def c39_0_p0 : PE := (13, [0, 1, 2, 3, 4], (7, [(0, (.ofNat 1), (.ofNat 60)), (1, (.negSucc 0), (.negSucc 0)), (2, (.ofNat 0), (.ofNat 60)), (3, (.ofNat 0), (.ofNat 60)), (4, (.ofNat 0), (.ofNat 127)), (5, (.ofNat 0), (.ofNat 60)), (6, (.ofNat 0), (.ofNat 59))], [((.ofNat 1), [(0, (.negSucc 0)), (6, (.ofNat 1))])], [.inr (.inl (some 0)), .inl (false, ((.ofNat 8), [])), .inl (false, ((.ofNat 0), [(2, (.ofNat 1))])), .inl (false, ((.ofNat 0), [(4, (.ofNat 1))])), .inl (false, ((.ofNat 0), [(5, (.ofNat 1))]))], [zc194,
    zc192,
    zc89,
    .inr (1, .inr (.inl 60))], []), symsL 4 0, some ((.ofNat 182), [(5, (.negSucc 0))]), 0, 0)
noncomputable def c39_0_p1 : PE := (13, [0, 1, 2, 3, 4], (6, [(0, (.ofNat 0), (.ofNat 60)), (1, (.negSucc 2147483647), (.ofNat 2147483647)), (2, (.ofNat 0), (.ofNat 60)), (3, (.ofNat 0), (.ofNat 60)), (4, (.ofNat 0), (.ofNat 60)), (5, (.ofNat 0), (.ofNat 60))], [], [.inr (.inl (some 0)), .inl (false, ((.ofNat 8), [])), .inl (false, ((.ofNat 0), [(2, (.ofNat 1))])), .inl (false, ((.negSucc 0), [])), .inl (false, ((.ofNat 0), [(4, (.ofNat 1))]))], [zc193,
    zc192,
    zc89,
    .inr (1, .inr (.inl 60))], []), symsL 4 0, some ((.ofNat 182), [(4, (.negSucc 0))]), 0, 0)
noncomputable def c39_0_p2 : PE := (71, [0, 1, 2, 3, 4, 5], (10, [(0, (.ofNat 0), (.ofNat 60)), (1, (.negSucc 2147483647), (.ofNat 2147483647)), (2, (.ofNat 0), (.ofNat 60)), (3, (.ofNat 0), (.ofNat 60)), (4, (.negSucc 0), (.ofNat 127)), (5, (.ofNat 0), (.ofNat 60)), (6, (.negSucc 0), (.ofNat 59)), (7, (.negSucc 2147483647), (.ofNat 2147483647)), (8, (.ofNat 0), (.ofNat 60)), (9, (.ofNat 0), (.ofNat 60))], [], [.inr (.inl (some 0)), .inl (false, ((.ofNat 8), [])), .inl (false, ((.ofNat 0), [(2, (.ofNat 1))])), .inl (false, ((.ofNat 0), [(4, (.ofNat 1))])), .inl (false, ((.ofNat 0), [(5, (.ofNat 1))])), .inl (false, ((.ofNat 0), [(6, (.ofNat 1))]))], [zc202,
    zc192,
    zc89,
    .inr (1, .inr (.inl 60))], []), symsL 4 0, some ((.ofNat 62), [(6, (.ofNat 1))]), 0, 0)
noncomputable def c39_0_pts : List PE := [c39_0_p0, c39_0_p1, c39_0_p2]
set_option maxRecDepth 100000 in
theorem c39_0_k : enCtF c39_0 c39_0_e (c39_0_pts ++ []) (none) (noF, noM, 2361183241434822615040, 0, 4) 3000 = true := by decide +kernel
set_option maxRecDepth 100000 in
theorem c39_0_k0 : ptCtF c39_0 c39_0_e (c39_0_pts ++ []) (noF, noM, 2361183241434822615040, 0, 4) 3000 c39_0_p0 = true := by decide +kernel
set_option maxRecDepth 100000 in
theorem c39_0_k1 : ptCtF c39_0 c39_0_e (c39_0_pts ++ []) (noF, noM, 2361183241434822615040, 0, 4) 3000 c39_0_p1 = true := by decide +kernel
set_option maxRecDepth 100000 in
theorem c39_0_k2 : ptCtF c39_0 c39_0_e (c39_0_pts ++ []) (noF, noM, 2361183241434822615040, 0, 4) 3000 c39_0_p2 = true := by decide +kernel
set_option maxRecDepth 100000 in
theorem c39_0_v : ValidC PPk c39_0 := ct_ok fpk ⟨noF_ok, noM_ok⟩ (d := 3) (ext := []) (pts := c39_0_pts) (env := c39_0_e) rfl (List.forall_mem_cons.mpr ⟨⟨c40_0_v, Nat.le_of_ble_eq_true rfl⟩, List.forall_mem_cons.mpr ⟨⟨c41_0_v, Nat.le_of_ble_eq_true rfl⟩, List.forall_mem_cons.mpr ⟨⟨c41_1_v, Nat.le_of_ble_eq_true rfl⟩, List.forall_mem_cons.mpr ⟨⟨c44_0_v, Nat.le_of_ble_eq_true rfl⟩, fun _ h => (by cases h)⟩⟩⟩⟩) ext_nil (fun q h => (by cases h)) (enF c39_0_k) (List.forall_mem_cons.mpr ⟨ptF c39_0_k0, List.forall_mem_cons.mpr ⟨ptF c39_0_k1, List.forall_mem_cons.mpr ⟨ptF c39_0_k2, fun _ h => (by cases h)⟩⟩⟩)

def zc203 : AC := .inl (5, [.inl (false, ((.ofNat 0), [(0, (.ofNat 1))])), .inr (.inl (some 1)), .inl (false, ((.ofNat 0), [(6, (.ofNat 1))])), .inl (false, ((.ofNat 0), [(7, (.ofNat 1))])), .inl (false, ((.ofNat 0), [(8, (.ofNat 1))])), .inr (.inl (some 2)), .inr (.inl (some 3))])
noncomputable def c38_0 : Ct := (38, 5, (4, [(0, (.ofNat 0), (.ofNat 60)), (1, (.negSucc 2147483647), (.ofNat 2147483647)), (2, (.ofNat 0), (.ofNat 60)), (3, (.ofNat 0), (.ofNat 60))], [], [.inr (.inl (some 0)), .inl (false, ((.ofNat 8), []))], [zc191,
    zc192,
    zc89,
    .inr (1, .inr (.inl 60))], []),
  [((7, [(4, (.negSucc 2147483647), (.ofNat 2147483647)), (5, (.ofNat 0), (.ofNat 60)), (6, (.ofNat 0), (.ofNat 60))], [], [], [zc200,
    zc192,
    zc89,
    .inr (1, .inr (.inl 60))], []), 0, 0)])
noncomputable def c38_0_e : List Ct := [c39_0, c40_0, c44_0]
noncomputable def c38_0_p0 : PE := (7, [0, 1, 2], (7, [(0, (.ofNat 0), (.ofNat 60)), (1, (.negSucc 2147483647), (.ofNat 2147483647)), (2, (.ofNat 0), (.ofNat 60)), (3, (.ofNat 0), (.ofNat 60)), (4, (.negSucc 2147483647), (.ofNat 2147483647)), (5, (.ofNat 0), (.ofNat 60)), (6, (.ofNat 0), (.ofNat 60))], [], [.inr (.inl (some 0)), .inl (false, ((.ofNat 8), [])), .inl (false, ((.ofNat 0), []))], [zc200,
    zc192,
    zc89,
    .inr (1, .inr (.inl 60))], []), symsL 4 0, some ((.ofNat 121), []), 0, 0)
noncomputable def c38_0_p1 : PE := (7, [0, 1, 2, 3], (9, [(0, (.ofNat 1), (.ofNat 60)), (1, (.negSucc 2147483647), (.ofNat 2147483647)), (2, (.ofNat 0), (.ofNat 60)), (3, (.ofNat 0), (.ofNat 60)), (4, (.ofNat 1), (.ofNat 60)), (5, (.ofNat 42), (.ofNat 47)), (6, (.negSucc 2147483647), (.ofNat 2147483647)), (7, (.ofNat 0), (.ofNat 60)), (8, (.ofNat 1), (.ofNat 60))], [], [.inr (.inl (some 0)), .inl (false, ((.ofNat 8), [])), .inl (false, ((.ofNat 0), [(4, (.ofNat 1))])), .inl (false, ((.ofNat 0), [(5, (.ofNat 1))]))], [zc203,
    zc192,
    zc89,
    .inr (1, .inr (.inl 60))], []), symsL 4 0, some ((.ofNat 121), [(4, (.negSucc 0))]), 0, 0)
noncomputable def c38_0_pts : List PE := [c38_0_p0, c38_0_p1]
set_option maxRecDepth 100000 in
theorem c38_0_k : enCtF c38_0 c38_0_e (c38_0_pts ++ []) (none) (noF, noM, 128, 0, 4) 3000 = true := by decide +kernel
set_option maxRecDepth 100000 in
theorem c38_0_k0 : ptCtF c38_0 c38_0_e (c38_0_pts ++ []) (noF, noM, 128, 0, 4) 3000 c38_0_p0 = true := by decide +kernel
set_option maxRecDepth 100000 in
theorem c38_0_k1 : ptCtF c38_0 c38_0_e (c38_0_pts ++ []) (noF, noM, 128, 0, 4) 3000 c38_0_p1 = true := by decide +kernel
set_option maxRecDepth 100000 in
theorem c38_0_v : ValidC PPk c38_0 := ct_ok fpk ⟨noF_ok, noM_ok⟩ (d := 4) (ext := []) (pts := c38_0_pts) (env := c38_0_e) rfl (List.forall_mem_cons.mpr ⟨⟨c39_0_v, Nat.le_of_ble_eq_true rfl⟩, List.forall_mem_cons.mpr ⟨⟨c40_0_v, Nat.le_of_ble_eq_true rfl⟩, List.forall_mem_cons.mpr ⟨⟨c44_0_v, Nat.le_of_ble_eq_true rfl⟩, fun _ h => (by cases h)⟩⟩⟩) ext_nil (fun q h => (by cases h)) (enF c38_0_k) (List.forall_mem_cons.mpr ⟨ptF c38_0_k0, List.forall_mem_cons.mpr ⟨ptF c38_0_k1, fun _ h => (by cases h)⟩⟩)

noncomputable def c37_0 : Ct := (37, 6, (4, [(0, (.ofNat 0), (.ofNat 60)), (1, (.negSucc 2147483647), (.ofNat 2147483647)), (2, (.ofNat 0), (.ofNat 60)), (3, (.ofNat 0), (.ofNat 60))], [], [.inr (.inl (some 0)), .inl (false, ((.ofNat 8), []))], [zc191,
    zc192,
    zc89,
    .inr (1, .inr (.inl 60))], []),
  [((7, [(4, (.negSucc 2147483647), (.ofNat 2147483647)), (5, (.ofNat 0), (.ofNat 60)), (6, (.ofNat 0), (.ofNat 60))], [], [], [zc200,
    zc192,
    zc89,
    .inr (1, .inr (.inl 60))], []), 0, 0)])
noncomputable def c37_0_e : List Ct := [c38_0, c40_0, c44_0]
noncomputable def c37_0_p0 : PE := (7, [0, 1, 2], (7, [(0, (.ofNat 0), (.ofNat 60)), (1, (.negSucc 2147483647), (.ofNat 2147483647)), (2, (.ofNat 0), (.ofNat 60)), (3, (.ofNat 0), (.ofNat 60)), (4, (.negSucc 2147483647), (.ofNat 2147483647)), (5, (.ofNat 0), (.ofNat 60)), (6, (.ofNat 0), (.ofNat 60))], [], [.inr (.inl (some 0)), .inl (false, ((.ofNat 8), [])), .inl (false, ((.ofNat 0), []))], [zc200,
    zc192,
    zc89,
    .inr (1, .inr (.inl 60))], []), symsL 4 0, some ((.ofNat 121), []), 0, 0)
noncomputable def c37_0_p1 : PE := (7, [0, 1, 2, 3], (9, [(0, (.ofNat 1), (.ofNat 60)), (1, (.negSucc 2147483647), (.ofNat 2147483647)), (2, (.ofNat 0), (.ofNat 60)), (3, (.ofNat 0), (.ofNat 60)), (4, (.ofNat 1), (.ofNat 60)), (5, (.ofNat 43), (.ofNat 45)), (6, (.negSucc 2147483647), (.ofNat 2147483647)), (7, (.ofNat 0), (.ofNat 60)), (8, (.ofNat 1), (.ofNat 60))], [], [.inr (.inl (some 0)), .inl (false, ((.ofNat 8), [])), .inl (false, ((.ofNat 0), [(4, (.ofNat 1))])), .inl (false, ((.ofNat 0), [(5, (.ofNat 1))]))], [zc203,
    zc192,
    zc89,
    .inr (1, .inr (.inl 60))], []), symsL 4 0, some ((.ofNat 121), [(4, (.negSucc 0))]), 0, 0)
noncomputable def c37_0_pts : List PE := [c37_0_p0, c37_0_p1]
set_option maxRecDepth 100000 in
theorem c37_0_k : enCtF c37_0 c37_0_e (c37_0_pts ++ []) (none) (noF, noM, 128, 0, 4) 3000 = true := by decide +kernel
set_option maxRecDepth 100000 in
theorem c37_0_k0 : ptCtF c37_0 c37_0_e (c37_0_pts ++ []) (noF, noM, 128, 0, 4) 3000 c37_0_p0 = true := by decide +kernel
set_option maxRecDepth 100000 in
theorem c37_0_k1 : ptCtF c37_0 c37_0_e (c37_0_pts ++ []) (noF, noM, 128, 0, 4) 3000 c37_0_p1 = true := by decide +kernel
set_option maxRecDepth 100000 in
theorem c37_0_v : ValidC PPk c37_0 := ct_ok fpk ⟨noF_ok, noM_ok⟩ (d := 5) (ext := []) (pts := c37_0_pts) (env := c37_0_e) rfl (List.forall_mem_cons.mpr ⟨⟨c38_0_v, Nat.le_of_ble_eq_true rfl⟩, List.forall_mem_cons.mpr ⟨⟨c40_0_v, Nat.le_of_ble_eq_true rfl⟩, List.forall_mem_cons.mpr ⟨⟨c44_0_v, Nat.le_of_ble_eq_true rfl⟩, fun _ h => (by cases h)⟩⟩⟩) ext_nil (fun q h => (by cases h)) (enF c37_0_k) (List.forall_mem_cons.mpr ⟨ptF c37_0_k0, List.forall_mem_cons.mpr ⟨ptF c37_0_k1, fun _ h => (by cases h)⟩⟩)

noncomputable def c36_0 : Ct := (36, 7, (4, [(0, (.ofNat 0), (.ofNat 60)), (1, (.negSucc 2147483647), (.ofNat 2147483647)), (2, (.ofNat 0), (.ofNat 60)), (3, (.ofNat 0), (.ofNat 60))], [], [.inr (.inl (some 0)), .inl (false, ((.ofNat 8), []))], [zc191,
    zc192,
    zc89,
    .inr (1, .inr (.inl 60))], []),
  [((7, [(4, (.negSucc 2147483647), (.ofNat 2147483647)), (5, (.ofNat 0), (.ofNat 60)), (6, (.ofNat 0), (.ofNat 60))], [], [], [zc200,
    zc192,
    zc89,
    .inr (1, .inr (.inl 60))], []), 0, 0)])
noncomputable def c36_0_e : List Ct := [c37_0, c40_0, c44_0]
noncomputable def c36_0_pts : List PE := []
set_option maxRecDepth 100000 in
theorem c36_0_k : enCtF c36_0 c36_0_e (c36_0_pts ++ []) (none) noH 3000 = true := by decide +kernel
set_option maxRecDepth 100000 in
theorem c36_0_v : ValidC PPk c36_0 := ct_ok fpk noH_ok (d := 6) (ext := []) (pts := c36_0_pts) (env := c36_0_e) rfl (List.forall_mem_cons.mpr ⟨⟨c37_0_v, Nat.le_of_ble_eq_true rfl⟩, List.forall_mem_cons.mpr ⟨⟨c40_0_v, Nat.le_of_ble_eq_true rfl⟩, List.forall_mem_cons.mpr ⟨⟨c44_0_v, Nat.le_of_ble_eq_true rfl⟩, fun _ h => (by cases h)⟩⟩⟩) ext_nil (fun q h => (by cases h)) (enF c36_0_k) (fun _ h => (by cases h))

def zc204 : AC := .inl (5, [.inl (false, ((.ofNat 0), [(0, (.ofNat 1))])), .inr (.inl (some 1)), .inl (false, ((.ofNat 0), [(5, (.ofNat 1))])), .inl (false, ((.ofNat 0), [(6, (.ofNat 1))])), .inl (false, ((.ofNat 0), [(7, (.ofNat 1))])), .inr (.inl (some 2)), .inr (.inl (some 3))])
noncomputable def c35_0 : Ct := (35, 8, (4, [(0, (.ofNat 0), (.ofNat 60)), (1, (.negSucc 2147483647), (.ofNat 2147483647)), (2, (.ofNat 0), (.ofNat 60)), (3, (.ofNat 0), (.ofNat 60))], [], [.inr (.inl (some 0)), .inl (false, ((.ofNat 8), []))], [zc191,
    zc192,
    zc89,
    .inr (1, .inr (.inl 60))], []),
  [((7, [(4, (.negSucc 2147483647), (.ofNat 2147483647)), (5, (.ofNat 0), (.ofNat 60)), (6, (.ofNat 0), (.ofNat 60))], [], [], [zc200,
    zc192,
    zc89,
    .inr (1, .inr (.inl 60))], []), 0, 0)])
noncomputable def c35_0_e : List Ct := [c36_0, c40_0, c44_0]
noncomputable def c35_0_p0 : PE := (7, [0, 1, 2], (8, [(0, (.ofNat 0), (.ofNat 60)), (1, (.negSucc 2147483647), (.ofNat 2147483647)), (2, (.ofNat 0), (.ofNat 60)), (3, (.ofNat 0), (.ofNat 60)), (4, (.ofNat 0), (.ofNat 60)), (5, (.negSucc 2147483647), (.ofNat 2147483647)), (6, (.ofNat 0), (.ofNat 60)), (7, (.ofNat 0), (.ofNat 60))], [], [.inr (.inl (some 0)), .inl (false, ((.ofNat 8), [])), .inl (false, ((.ofNat 0), [(4, (.ofNat 1))]))], [zc204,
    zc192,
    zc89,
    .inr (1, .inr (.inl 60))], []), symsL 4 0, some ((.ofNat 121), [(4, (.negSucc 0))]), 0, 0)
noncomputable def c35_0_pts : List PE := [c35_0_p0]
set_option maxRecDepth 100000 in
theorem c35_0_k : enCtF c35_0 c35_0_e (c35_0_pts ++ []) (none) (noF, noM, 128, 0, 4) 3000 = true := by decide +kernel
set_option maxRecDepth 100000 in
theorem c35_0_k0 : ptCtF c35_0 c35_0_e (c35_0_pts ++ []) (noF, noM, 128, 0, 4) 3000 c35_0_p0 = true := by decide +kernel
set_option maxRecDepth 100000 in
theorem c35_0_v : ValidC PPk c35_0 := ct_ok fpk ⟨noF_ok, noM_ok⟩ (d := 7) (ext := []) (pts := c35_0_pts) (env := c35_0_e) rfl (List.forall_mem_cons.mpr ⟨⟨c36_0_v, Nat.le_of_ble_eq_true rfl⟩, List.forall_mem_cons.mpr ⟨⟨c40_0_v, Nat.le_of_ble_eq_true rfl⟩, List.forall_mem_cons.mpr ⟨⟨c44_0_v, Nat.le_of_ble_eq_true rfl⟩, fun _ h => (by cases h)⟩⟩⟩) ext_nil (fun q h => (by cases h)) (enF c35_0_k) (List.forall_mem_cons.mpr ⟨ptF c35_0_k0, fun _ h => (by cases h)⟩)

noncomputable def c34_0 : Ct := (34, 9, (4, [(0, (.ofNat 0), (.ofNat 60)), (1, (.negSucc 2147483647), (.ofNat 2147483647)), (2, (.ofNat 0), (.ofNat 60)), (3, (.ofNat 0), (.ofNat 60))], [], [.inr (.inl (some 0)), .inl (false, ((.ofNat 8), []))], [zc191,
    zc192,
    zc89,
    .inr (1, .inr (.inl 60))], []),
  [((7, [(4, (.negSucc 2147483647), (.ofNat 2147483647)), (5, (.ofNat 0), (.ofNat 60)), (6, (.ofNat 0), (.ofNat 60))], [], [], [zc200,
    zc192,
    zc89,
    .inr (1, .inr (.inl 60))], []), 0, 0)])
noncomputable def c34_0_e : List Ct := [c35_0, c40_0, c44_0]
noncomputable def c34_0_p0 : PE := (7, [0, 1, 2], (8, [(0, (.ofNat 0), (.ofNat 60)), (1, (.negSucc 2147483647), (.ofNat 2147483647)), (2, (.ofNat 0), (.ofNat 60)), (3, (.ofNat 0), (.ofNat 60)), (4, (.ofNat 0), (.ofNat 60)), (5, (.negSucc 2147483647), (.ofNat 2147483647)), (6, (.ofNat 0), (.ofNat 60)), (7, (.ofNat 0), (.ofNat 60))], [], [.inr (.inl (some 0)), .inl (false, ((.ofNat 8), [])), .inl (false, ((.ofNat 0), [(4, (.ofNat 1))]))], [zc204,
    zc192,
    zc89,
    .inr (1, .inr (.inl 60))], []), symsL 4 0, some ((.ofNat 121), [(4, (.negSucc 0))]), 0, 0)
noncomputable def c34_0_pts : List PE := [c34_0_p0]
set_option maxRecDepth 100000 in
theorem c34_0_k : enCtF c34_0 c34_0_e (c34_0_pts ++ []) (none) (noF, noM, 128, 0, 4) 3000 = true := by decide +kernel
set_option maxRecDepth 100000 in
theorem c34_0_k0 : ptCtF c34_0 c34_0_e (c34_0_pts ++ []) (noF, noM, 128, 0, 4) 3000 c34_0_p0 = true := by decide +kernel
set_option maxRecDepth 100000 in
theorem c34_0_v : ValidC PPk c34_0 := ct_ok fpk ⟨noF_ok, noM_ok⟩ (d := 8) (ext := []) (pts := c34_0_pts) (env := c34_0_e) rfl (List.forall_mem_cons.mpr ⟨⟨c35_0_v, Nat.le_of_ble_eq_true rfl⟩, List.forall_mem_cons.mpr ⟨⟨c40_0_v, Nat.le_of_ble_eq_true rfl⟩, List.forall_mem_cons.mpr ⟨⟨c44_0_v, Nat.le_of_ble_eq_true rfl⟩, fun _ h => (by cases h)⟩⟩⟩) ext_nil (fun q h => (by cases h)) (enF c34_0_k) (List.forall_mem_cons.mpr ⟨ptF c34_0_k0, fun _ h => (by cases h)⟩)

noncomputable def c45_1 : Ct := (45, 10, (4, [(0, (.ofNat 0), (.ofNat 60)), (1, (.negSucc 2147483647), (.ofNat 2147483647)), (2, (.ofNat 0), (.ofNat 60)), (3, (.ofNat 0), (.ofNat 60))], [((.ofNat 1), [(0, (.negSucc 0)), (2, (.ofNat 1))])], [.inr (.inl (some 0)), .inl (false, ((.ofNat 7), []))], [zc191,
    zc192,
    zc89,
    .inr (1, .inr (.inl 60))], []),
  [((7, [(4, (.negSucc 2147483647), (.ofNat 2147483647)), (5, (.ofNat 0), (.ofNat 60)), (6, (.ofNat 0), (.ofNat 60))], [], [], [zc200,
    zc192,
    zc89,
    .inr (1, .inr (.inl 60))], []), 0, 0)])
noncomputable def c45_1_e : List Ct := [c34_0, c40_0, c43_0]
noncomputable def c45_1_pts : List PE := []
set_option maxRecDepth 100000 in
theorem c45_1_k : enCtF c45_1 c45_1_e (c45_1_pts ++ []) (none) noH 3000 = true := by decide +kernel
set_option maxRecDepth 100000 in
theorem c45_1_v : ValidC PPk c45_1 := ct_ok fpk noH_ok (d := 9) (ext := []) (pts := c45_1_pts) (env := c45_1_e) rfl (List.forall_mem_cons.mpr ⟨⟨c34_0_v, Nat.le_of_ble_eq_true rfl⟩, List.forall_mem_cons.mpr ⟨⟨c40_0_v, Nat.le_of_ble_eq_true rfl⟩, List.forall_mem_cons.mpr ⟨⟨c43_0_v, Nat.le_of_ble_eq_true rfl⟩, fun _ h => (by cases h)⟩⟩⟩) ext_nil (fun q h => (by cases h)) (enF c45_1_k) (fun _ h => (by cases h))

noncomputable def c41_2 : Ct := (41, 11, (5, [(0, (.negSucc 2147483647), (.ofNat 2147483647)), (1, (.ofNat 0), (.ofNat 60)), (2, (.negSucc 2147483647), (.ofNat 2147483647)), (3, (.ofNat 0), (.ofNat 60)), (4, (.ofNat 0), (.ofNat 60))], [((.ofNat 1), [(1, (.negSucc 0)), (3, (.ofNat 1))])], [.inr (.inl (some 0)), .inl (false, ((.ofNat 0), [(0, (.ofNat 1))])), .inl (false, ((.ofNat 7), []))], [zc198,
    zc192,
    zc89,
    .inr (1, .inr (.inl 60))], []),
  [((8, [(5, (.negSucc 2147483647), (.ofNat 2147483647)), (6, (.ofNat 0), (.ofNat 60)), (7, (.ofNat 0), (.ofNat 60))], [], [], [zc201,
    zc192,
    zc89,
    .inr (1, .inr (.inl 60))], []), 0, 0)])
noncomputable def c41_2_e : List Ct := [c42_0, c43_0, c44_0, c45_1]
noncomputable def c41_2_pts : List PE := []
set_option maxRecDepth 100000 in
theorem c41_2_k : enCtF c41_2 c41_2_e (c41_2_pts ++ []) (none) noH 3000 = true := by decide +kernel
set_option maxRecDepth 100000 in
theorem c41_2_v : ValidC PPk c41_2 := ct_ok fpk noH_ok (d := 10) (ext := []) (pts := c41_2_pts) (env := c41_2_e) rfl (List.forall_mem_cons.mpr ⟨⟨c42_0_v, Nat.le_of_ble_eq_true rfl⟩, List.forall_mem_cons.mpr ⟨⟨c43_0_v, Nat.le_of_ble_eq_true rfl⟩, List.forall_mem_cons.mpr ⟨⟨c44_0_v, Nat.le_of_ble_eq_true rfl⟩, List.forall_mem_cons.mpr ⟨⟨c45_1_v, Nat.le_of_ble_eq_true rfl⟩, fun _ h => (by cases h)⟩⟩⟩⟩) ext_nil (fun q h => (by cases h)) (enF c41_2_k) (fun _ h => (by cases h))

noncomputable def c41_3 : Ct := (41, 2, (6, [(0, (.ofNat 0), (.ofNat 60)), (1, (.negSucc 2147483647), (.ofNat 2147483647)), (2, (.ofNat 0), (.ofNat 60)), (3, (.ofNat 0), (.ofNat 60))], [], [.inr (.inl (some 0)), .inl (false, ((.negSucc 0), [])), .inl (false, ((.ofNat 7), []))], [zc191,
    zc196,
    zc133,
    .inr (1, .inr (.inl 60))], []),
  [((7, [(6, (.negSucc 2147483647), (.ofNat 2147483647))], [], [], [zc197,
    zc196,
    zc133,
    .inr (1, .inr (.inl 60))], []), 0, 0)])
noncomputable def c41_3_e : List Ct := [c43_0]
noncomputable def c41_3_pts : List PE := []
set_option maxRecDepth 100000 in
theorem c41_3_k : enCtF c41_3 c41_3_e (c41_3_pts ++ []) (none) noH 3000 = true := by decide +kernel
set_option maxRecDepth 100000 in
theorem c41_3_v : ValidC PPk c41_3 := ct_ok fpk noH_ok (d := 1) (ext := []) (pts := c41_3_pts) (env := c41_3_e) rfl (List.forall_mem_cons.mpr ⟨⟨c43_0_v, Nat.le_of_ble_eq_true rfl⟩, fun _ h => (by cases h)⟩) ext_nil (fun q h => (by cases h)) (enF c41_3_k) (fun _ h => (by cases h))

noncomputable def c39_1 : Ct := (39, 12, (4, [(0, (.ofNat 0), (.ofNat 60)), (1, (.negSucc 2147483647), (.ofNat 2147483647)), (2, (.ofNat 0), (.ofNat 60)), (3, (.ofNat 0), (.ofNat 60))], [], [.inr (.inl (some 0)), .inl (false, ((.ofNat 7), []))], [zc191,
    zc192,
    zc89,
    .inr (1, .inr (.inl 60))], []),
  [((7, [(4, (.negSucc 2147483647), (.ofNat 2147483647)), (5, (.ofNat 0), (.ofNat 60)), (6, (.ofNat 0), (.ofNat 60))], [], [], [zc200,
    zc192,
    zc89,
    .inr (1, .inr (.inl 60))], []), 0, 0)])
noncomputable def c39_1_e : List Ct := [c40_0, c41_2, c41_3, c44_0]
noncomputable def c39_1_p0 : PE := (13, [0, 1, 2, 3, 4], (7, [(0, (.ofNat 1), (.ofNat 60)), (1, (.negSucc 0), (.negSucc 0)), (2, (.ofNat 0), (.ofNat 60)), (3, (.ofNat 0), (.ofNat 60)), (4, (.ofNat 0), (.ofNat 127)), (5, (.ofNat 0), (.ofNat 60)), (6, (.ofNat 0), (.ofNat 59))], [((.ofNat 1), [(0, (.negSucc 0)), (6, (.ofNat 1))])], [.inr (.inl (some 0)), .inl (false, ((.ofNat 7), [])), .inl (false, ((.ofNat 0), [(2, (.ofNat 1))])), .inl (false, ((.ofNat 0), [(4, (.ofNat 1))])), .inl (false, ((.ofNat 0), [(5, (.ofNat 1))]))], [zc194,
    zc192,
    zc89,
    .inr (1, .inr (.inl 60))], []), symsL 4 0, some ((.ofNat 182), [(5, (.negSucc 0))]), 0, 0)
noncomputable def c39_1_p1 : PE := (13, [0, 1, 2, 3, 4], (6, [(0, (.ofNat 0), (.ofNat 60)), (1, (.negSucc 2147483647), (.ofNat 2147483647)), (2, (.ofNat 0), (.ofNat 60)), (3, (.ofNat 0), (.ofNat 60)), (4, (.ofNat 0), (.ofNat 60)), (5, (.ofNat 0), (.ofNat 60))], [], [.inr (.inl (some 0)), .inl (false, ((.ofNat 7), [])), .inl (false, ((.ofNat 0), [(2, (.ofNat 1))])), .inl (false, ((.negSucc 0), [])), .inl (false, ((.ofNat 0), [(4, (.ofNat 1))]))], [zc193,
    zc192,
    zc89,
    .inr (1, .inr (.inl 60))], []), symsL 4 0, some ((.ofNat 182), [(4, (.negSucc 0))]), 0, 0)
noncomputable def c39_1_p2 : PE := (71, [0, 1, 2, 3, 4, 5], (10, [(0, (.ofNat 0), (.ofNat 60)), (1, (.negSucc 2147483647), (.ofNat 2147483647)), (2, (.ofNat 0), (.ofNat 60)), (3, (.ofNat 0), (.ofNat 60)), (4, (.negSucc 0), (.ofNat 127)), (5, (.ofNat 0), (.ofNat 60)), (6, (.negSucc 0), (.ofNat 59)), (7, (.negSucc 2147483647), (.ofNat 2147483647)), (8, (.ofNat 0), (.ofNat 60)), (9, (.ofNat 0), (.ofNat 60))], [], [.inr (.inl (some 0)), .inl (false, ((.ofNat 7), [])), .inl (false, ((.ofNat 0), [(2, (.ofNat 1))])), .inl (false, ((.ofNat 0), [(4, (.ofNat 1))])), .inl (false, ((.ofNat 0), [(5, (.ofNat 1))])), .inl (false, ((.ofNat 0), [(6, (.ofNat 1))]))], [zc202,
    zc192,
    zc89,
    .inr (1, .inr (.inl 60))], []), symsL 4 0, some ((.ofNat 62), [(6, (.ofNat 1))]), 0, 0)
noncomputable def c39_1_pts : List PE := [c39_1_p0, c39_1_p1, c39_1_p2]
set_option maxRecDepth 100000 in
theorem c39_1_k : enCtF c39_1 c39_1_e (c39_1_pts ++ []) (none) (noF, noM, 2361183241434822615040, 0, 4) 3000 = true := by decide +kernel
set_option maxRecDepth 100000 in
theorem c39_1_k0 : ptCtF c39_1 c39_1_e (c39_1_pts ++ []) (noF, noM, 2361183241434822615040, 0, 4) 3000 c39_1_p0 = true := by decide +kernel
set_option maxRecDepth 100000 in
theorem c39_1_k1 : ptCtF c39_1 c39_1_e (c39_1_pts ++ []) (noF, noM, 2361183241434822615040, 0, 4) 3000 c39_1_p1 = true := by decide +kernel
set_option maxRecDepth 100000 in
theorem c39_1_k2 : ptCtF c39_1 c39_1_e (c39_1_pts ++ []) (noF, noM, 2361183241434822615040, 0, 4) 3000 c39_1_p2 = true := by decide +kernel
set_option maxRecDepth 100000 in
theorem c39_1_v : ValidC PPk c39_1 := ct_ok fpk ⟨noF_ok, noM_ok⟩ (d := 11) (ext := []) (pts := c39_1_pts) (env := c39_1_e) rfl (List.forall_mem_cons.mpr ⟨⟨c40_0_v, Nat.le_of_ble_eq_true rfl⟩, List.forall_mem_cons.mpr ⟨⟨c41_2_v, Nat.le_of_ble_eq_true rfl⟩, List.forall_mem_cons.mpr ⟨⟨c41_3_v, Nat.le_of_ble_eq_true rfl⟩, List.forall_mem_cons.mpr ⟨⟨c44_0_v, Nat.le_of_ble_eq_true rfl⟩, fun _ h => (by cases h)⟩⟩⟩⟩) ext_nil (fun q h => (by cases h)) (enF c39_1_k) (List.forall_mem_cons.mpr ⟨ptF c39_1_k0, List.forall_mem_cons.mpr ⟨ptF c39_1_k1, List.forall_mem_cons.mpr ⟨ptF c39_1_k2, fun _ h => (by cases h)⟩⟩⟩)

noncomputable def c38_1 : Ct := (38, 13, (4, [(0, (.ofNat 0), (.ofNat 60)), (1, (.negSucc 2147483647), (.ofNat 2147483647)), (2, (.ofNat 0), (.ofNat 60)), (3, (.ofNat 0), (.ofNat 60))], [], [.inr (.inl (some 0)), .inl (false, ((.ofNat 7), []))], [zc191,
    zc192,
    zc89,
    .inr (1, .inr (.inl 60))], []),
  [((7, [(4, (.negSucc 2147483647), (.ofNat 2147483647)), (5, (.ofNat 0), (.ofNat 60)), (6, (.ofNat 0), (.ofNat 60))], [], [], [zc200,
    zc192,
    zc89,
    .inr (1, .inr (.inl 60))], []), 0, 0)])
noncomputable def c38_1_e : List Ct := [c39_1, c40_0, c44_0]
noncomputable def c38_1_p0 : PE := (7, [0, 1, 2], (7, [(0, (.ofNat 0), (.ofNat 60)), (1, (.negSucc 2147483647), (.ofNat 2147483647)), (2, (.ofNat 0), (.ofNat 60)), (3, (.ofNat 0), (.ofNat 60)), (4, (.negSucc 2147483647), (.ofNat 2147483647)), (5, (.ofNat 0), (.ofNat 60)), (6, (.ofNat 0), (.ofNat 60))], [], [.inr (.inl (some 0)), .inl (false, ((.ofNat 7), [])), .inl (false, ((.ofNat 0), []))], [zc200,
    zc192,
    zc89,
    .inr (1, .inr (.inl 60))], []), symsL 4 0, some ((.ofNat 121), []), 0, 0)
noncomputable def c38_1_p1 : PE := (7, [0, 1, 2, 3], (9, [(0, (.ofNat 1), (.ofNat 60)), (1, (.negSucc 2147483647), (.ofNat 2147483647)), (2, (.ofNat 0), (.ofNat 60)), (3, (.ofNat 0), (.ofNat 60)), (4, (.ofNat 1), (.ofNat 60)), (5, (.ofNat 42), (.ofNat 47)), (6, (.negSucc 2147483647), (.ofNat 2147483647)), (7, (.ofNat 0), (.ofNat 60)), (8, (.ofNat 1), (.ofNat 60))], [], [.inr (.inl (some 0)), .inl (false, ((.ofNat 7), [])), .inl (false, ((.ofNat 0), [(4, (.ofNat 1))])), .inl (false, ((.ofNat 0), [(5, (.ofNat 1))]))], [zc203,
    zc192,
    zc89,
    .inr (1, .inr (.inl 60))], []), symsL 4 0, some ((.ofNat 121), [(4, (.negSucc 0))]), 0, 0)
noncomputable def c38_1_pts : List PE := [c38_1_p0, c38_1_p1]
set_option maxRecDepth 100000 in
theorem c38_1_k : enCtF c38_1 c38_1_e (c38_1_pts ++ []) (none) (noF, noM, 128, 0, 4) 3000 = true := by decide +kernel
set_option maxRecDepth 100000 in
theorem c38_1_k0 : ptCtF c38_1 c38_1_e (c38_1_pts ++ []) (noF, noM, 128, 0, 4) 3000 c38_1_p0 = true := by decide +kernel
set_option maxRecDepth 100000 in
theorem c38_1_k1 : ptCtF c38_1 c38_1_e (c38_1_pts ++ []) (noF, noM, 128, 0, 4) 3000 c38_1_p1 = true := by decide +kernel
set_option maxRecDepth 100000 in
theorem c38_1_v : ValidC PPk c38_1 := ct_ok fpk ⟨noF_ok, noM_ok⟩ (d := 12) (ext := []) (pts := c38_1_pts) (env := c38_1_e) rfl (List.forall_mem_cons.mpr ⟨⟨c39_1_v, Nat.le_of_ble_eq_true rfl⟩, List.forall_mem_cons.mpr ⟨⟨c40_0_v, Nat.le_of_ble_eq_true rfl⟩, List.forall_mem_cons.mpr ⟨⟨c44_0_v, Nat.le_of_ble_eq_true rfl⟩, fun _ h => (by cases h)⟩⟩⟩) ext_nil (fun q h => (by cases h)) (enF c38_1_k) (List.forall_mem_cons.mpr ⟨ptF c38_1_k0, List.forall_mem_cons.mpr ⟨ptF c38_1_k1, fun _ h => (by cases h)⟩⟩)

noncomputable def c37_1 : Ct := (37, 14, (4, [(0, (.ofNat 0), (.ofNat 60)), (1, (.negSucc 2147483647), (.ofNat 2147483647)), (2, (.ofNat 0), (.ofNat 60)), (3, (.ofNat 0), (.ofNat 60))], [], [.inr (.inl (some 0)), .inl (false, ((.ofNat 7), []))], [zc191,
    zc192,
    zc89,
    .inr (1, .inr (.inl 60))], []),
  [((7, [(4, (.negSucc 2147483647), (.ofNat 2147483647)), (5, (.ofNat 0), (.ofNat 60)), (6, (.ofNat 0), (.ofNat 60))], [], [], [zc200,
    zc192,
    zc89,
    .inr (1, .inr (.inl 60))], []), 0, 0)])
noncomputable def c37_1_e : List Ct := [c38_1, c40_0, c44_0]
noncomputable def c37_1_p0 : PE := (7, [0, 1, 2], (7, [(0, (.ofNat 0), (.ofNat 60)), (1, (.negSucc 2147483647), (.ofNat 2147483647)), (2, (.ofNat 0), (.ofNat 60)), (3, (.ofNat 0), (.ofNat 60)), (4, (.negSucc 2147483647), (.ofNat 2147483647)), (5, (.ofNat 0), (.ofNat 60)), (6, (.ofNat 0), (.ofNat 60))], [], [.inr (.inl (some 0)), .inl (false, ((.ofNat 7), [])), .inl (false, ((.ofNat 0), []))], [zc200,
    zc192,
    zc89,
    .inr (1, .inr (.inl 60))], []), symsL 4 0, some ((.ofNat 121), []), 0, 0)
noncomputable def c37_1_p1 : PE := (7, [0, 1, 2, 3], (9, [(0, (.ofNat 1), (.ofNat 60)), (1, (.negSucc 2147483647), (.ofNat 2147483647)), (2, (.ofNat 0), (.ofNat 60)), (3, (.ofNat 0), (.ofNat 60)), (4, (.ofNat 1), (.ofNat 60)), (5, (.ofNat 43), (.ofNat 45)), (6, (.negSucc 2147483647), (.ofNat 2147483647)), (7, (.ofNat 0), (.ofNat 60)), (8, (.ofNat 1), (.ofNat 60))], [], [.inr (.inl (some 0)), .inl (false, ((.ofNat 7), [])), .inl (false, ((.ofNat 0), [(4, (.ofNat 1))])), .inl (false, ((.ofNat 0), [(5, (.ofNat 1))]))], [zc203,
    zc192,
    zc89,
    .inr (1, .inr (.inl 60))], []), symsL 4 0, some ((.ofNat 121), [(4, (.negSucc 0))]), 0, 0)
noncomputable def c37_1_pts : List PE := [c37_1_p0, c37_1_p1]
set_option maxRecDepth 100000 in
theorem c37_1_k : enCtF c37_1 c37_1_e (c37_1_pts ++ []) (none) (noF, noM, 128, 0, 4) 3000 = true := by decide +kernel
set_option maxRecDepth 100000 in
theorem c37_1_k0 : ptCtF c37_1 c37_1_e (c37_1_pts ++ []) (noF, noM, 128, 0, 4) 3000 c37_1_p0 = true := by decide +kernel
set_option maxRecDepth 100000 in
theorem c37_1_k1 : ptCtF c37_1 c37_1_e (c37_1_pts ++ []) (noF, noM, 128, 0, 4) 3000 c37_1_p1 = true := by decide +kernel
set_option maxRecDepth 100000 in
theorem c37_1_v : ValidC PPk c37_1 := ct_ok fpk ⟨noF_ok, noM_ok⟩ (d := 13) (ext := []) (pts := c37_1_pts) (env := c37_1_e) rfl (List.forall_mem_cons.mpr ⟨⟨c38_1_v, Nat.le_of_ble_eq_true rfl⟩, List.forall_mem_cons.mpr ⟨⟨c40_0_v, Nat.le_of_ble_eq_true rfl⟩, List.forall_mem_cons.mpr ⟨⟨c44_0_v, Nat.le_of_ble_eq_true rfl⟩, fun _ h => (by cases h)⟩⟩⟩) ext_nil (fun q h => (by cases h)) (enF c37_1_k) (List.forall_mem_cons.mpr ⟨ptF c37_1_k0, List.forall_mem_cons.mpr ⟨ptF c37_1_k1, fun _ h => (by cases h)⟩⟩)

noncomputable def c36_1 : Ct := (36, 15, (4, [(0, (.ofNat 0), (.ofNat 60)), (1, (.negSucc 2147483647), (.ofNat 2147483647)), (2, (.ofNat 0), (.ofNat 60)), (3, (.ofNat 0), (.ofNat 60))], [], [.inr (.inl (some 0)), .inl (false, ((.ofNat 7), []))], [zc191,
    zc192,
    zc89,
    .inr (1, .inr (.inl 60))], []),
  [((7, [(4, (.negSucc 2147483647), (.ofNat 2147483647)), (5, (.ofNat 0), (.ofNat 60)), (6, (.ofNat 0), (.ofNat 60))], [], [], [zc200,
    zc192,
    zc89,
    .inr (1, .inr (.inl 60))], []), 0, 0)])
noncomputable def c36_1_e : List Ct := [c37_1, c40_0, c44_0]
noncomputable def c36_1_pts : List PE := []
set_option maxRecDepth 100000 in
theorem c36_1_k : enCtF c36_1 c36_1_e (c36_1_pts ++ []) (none) noH 3000 = true := by decide +kernel
set_option maxRecDepth 100000 in
theorem c36_1_v : ValidC PPk c36_1 := ct_ok fpk noH_ok (d := 14) (ext := []) (pts := c36_1_pts) (env := c36_1_e) rfl (List.forall_mem_cons.mpr ⟨⟨c37_1_v, Nat.le_of_ble_eq_true rfl⟩, List.forall_mem_cons.mpr ⟨⟨c40_0_v, Nat.le_of_ble_eq_true rfl⟩, List.forall_mem_cons.mpr ⟨⟨c44_0_v, Nat.le_of_ble_eq_true rfl⟩, fun _ h => (by cases h)⟩⟩⟩) ext_nil (fun q h => (by cases h)) (enF c36_1_k) (fun _ h => (by cases h))

noncomputable def c35_1 : Ct := (35, 16, (4, [(0, (.ofNat 0), (.ofNat 60)), (1, (.negSucc 2147483647), (.ofNat 2147483647)), (2, (.ofNat 0), (.ofNat 60)), (3, (.ofNat 0), (.ofNat 60))], [], [.inr (.inl (some 0)), .inl (false, ((.ofNat 7), []))], [zc191,
    zc192,
    zc89,
    .inr (1, .inr (.inl 60))], []),
  [((7, [(4, (.negSucc 2147483647), (.ofNat 2147483647)), (5, (.ofNat 0), (.ofNat 60)), (6, (.ofNat 0), (.ofNat 60))], [], [], [zc200,
    zc192,
    zc89,
    .inr (1, .inr (.inl 60))], []), 0, 0)])
noncomputable def c35_1_e : List Ct := [c36_1, c40_0, c44_0]
noncomputable def c35_1_p0 : PE := (7, [0, 1, 2], (8, [(0, (.ofNat 0), (.ofNat 60)), (1, (.negSucc 2147483647), (.ofNat 2147483647)), (2, (.ofNat 0), (.ofNat 60)), (3, (.ofNat 0), (.ofNat 60)), (4, (.ofNat 0), (.ofNat 60)), (5, (.negSucc 2147483647), (.ofNat 2147483647)), (6, (.ofNat 0), (.ofNat 60)), (7, (.ofNat 0), (.ofNat 60))], [], [.inr (.inl (some 0)), .inl (false, ((.ofNat 7), [])), .inl (false, ((.ofNat 0), [(4, (.ofNat 1))]))], [zc204,
    zc192,
    zc89,
    .inr (1, .inr (.inl 60))], []), symsL 4 0, some ((.ofNat 121), [(4, (.negSucc 0))]), 0, 0)
noncomputable def c35_1_pts : List PE := [c35_1_p0]
set_option maxRecDepth 100000 in
theorem c35_1_k : enCtF c35_1 c35_1_e (c35_1_pts ++ []) (none) (noF, noM, 128, 0, 4) 3000 = true := by decide +kernel
set_option maxRecDepth 100000 in
theorem c35_1_k0 : ptCtF c35_1 c35_1_e (c35_1_pts ++ []) (noF, noM, 128, 0, 4) 3000 c35_1_p0 = true := by decide +kernel
set_option maxRecDepth 100000 in
theorem c35_1_v : ValidC PPk c35_1 := ct_ok fpk ⟨noF_ok, noM_ok⟩ (d := 15) (ext := []) (pts := c35_1_pts) (env := c35_1_e) rfl (List.forall_mem_cons.mpr ⟨⟨c36_1_v, Nat.le_of_ble_eq_true rfl⟩, List.forall_mem_cons.mpr ⟨⟨c40_0_v, Nat.le_of_ble_eq_true rfl⟩, List.forall_mem_cons.mpr ⟨⟨c44_0_v, Nat.le_of_ble_eq_true rfl⟩, fun _ h => (by cases h)⟩⟩⟩) ext_nil (fun q h => (by cases h)) (enF c35_1_k) (List.forall_mem_cons.mpr ⟨ptF c35_1_k0, fun _ h => (by cases h)⟩)

noncomputable def c34_1 : Ct := (34, 17, (4, [(0, (.ofNat 0), (.ofNat 60)), (1, (.negSucc 2147483647), (.ofNat 2147483647)), (2, (.ofNat 0), (.ofNat 60)), (3, (.ofNat 0), (.ofNat 60))], [], [.inr (.inl (some 0)), .inl (false, ((.ofNat 7), []))], [zc191,
    zc192,
    zc89,
    .inr (1, .inr (.inl 60))], []),
  [((7, [(4, (.negSucc 2147483647), (.ofNat 2147483647)), (5, (.ofNat 0), (.ofNat 60)), (6, (.ofNat 0), (.ofNat 60))], [], [], [zc200,
    zc192,
    zc89,
    .inr (1, .inr (.inl 60))], []), 0, 0)])
noncomputable def c34_1_e : List Ct := [c35_1, c40_0, c44_0]
noncomputable def c34_1_p0 : PE := (7, [0, 1, 2], (8, [(0, (.ofNat 0), (.ofNat 60)), (1, (.negSucc 2147483647), (.ofNat 2147483647)), (2, (.ofNat 0), (.ofNat 60)), (3, (.ofNat 0), (.ofNat 60)), (4, (.ofNat 0), (.ofNat 60)), (5, (.negSucc 2147483647), (.ofNat 2147483647)), (6, (.ofNat 0), (.ofNat 60)), (7, (.ofNat 0), (.ofNat 60))], [], [.inr (.inl (some 0)), .inl (false, ((.ofNat 7), [])), .inl (false, ((.ofNat 0), [(4, (.ofNat 1))]))], [zc204,
    zc192,
    zc89,
    .inr (1, .inr (.inl 60))], []), symsL 4 0, some ((.ofNat 121), [(4, (.negSucc 0))]), 0, 0)
noncomputable def c34_1_pts : List PE := [c34_1_p0]
set_option maxRecDepth 100000 in
theorem c34_1_k : enCtF c34_1 c34_1_e (c34_1_pts ++ []) (none) (noF, noM, 128, 0, 4) 3000 = true := by decide +kernel
set_option maxRecDepth 100000 in
theorem c34_1_k0 : ptCtF c34_1 c34_1_e (c34_1_pts ++ []) (noF, noM, 128, 0, 4) 3000 c34_1_p0 = true := by decide +kernel
set_option maxRecDepth 100000 in
theorem c34_1_v : ValidC PPk c34_1 := ct_ok fpk ⟨noF_ok, noM_ok⟩ (d := 16) (ext := []) (pts := c34_1_pts) (env := c34_1_e) rfl (List.forall_mem_cons.mpr ⟨⟨c35_1_v, Nat.le_of_ble_eq_true rfl⟩, List.forall_mem_cons.mpr ⟨⟨c40_0_v, Nat.le_of_ble_eq_true rfl⟩, List.forall_mem_cons.mpr ⟨⟨c44_0_v, Nat.le_of_ble_eq_true rfl⟩, fun _ h => (by cases h)⟩⟩⟩) ext_nil (fun q h => (by cases h)) (enF c34_1_k) (List.forall_mem_cons.mpr ⟨ptF c34_1_k0, fun _ h => (by cases h)⟩)

noncomputable def c45_2 : Ct := (45, 18, (4, [(0, (.ofNat 0), (.ofNat 60)), (1, (.negSucc 2147483647), (.ofNat 2147483647)), (2, (.ofNat 0), (.ofNat 60)), (3, (.ofNat 0), (.ofNat 60))], [((.ofNat 1), [(0, (.negSucc 0)), (2, (.ofNat 1))])], [.inr (.inl (some 0)), .inl (false, ((.ofNat 6), []))], [zc191,
    zc192,
    zc89,
    .inr (1, .inr (.inl 60))], []),
  [((7, [(4, (.negSucc 2147483647), (.ofNat 2147483647)), (5, (.ofNat 0), (.ofNat 60)), (6, (.ofNat 0), (.ofNat 60))], [], [], [zc200,
    zc192,
    zc89,
    .inr (1, .inr (.inl 60))], []), 0, 0)])
noncomputable def c45_2_e : List Ct := [c34_1, c40_0, c43_0]
noncomputable def c45_2_pts : List PE := []
set_option maxRecDepth 100000 in
theorem c45_2_k : enCtF c45_2 c45_2_e (c45_2_pts ++ []) (none) noH 3000 = true := by decide +kernel
set_option maxRecDepth 100000 in
theorem c45_2_v : ValidC PPk c45_2 := ct_ok fpk noH_ok (d := 17) (ext := []) (pts := c45_2_pts) (env := c45_2_e) rfl (List.forall_mem_cons.mpr ⟨⟨c34_1_v, Nat.le_of_ble_eq_true rfl⟩, List.forall_mem_cons.mpr ⟨⟨c40_0_v, Nat.le_of_ble_eq_true rfl⟩, List.forall_mem_cons.mpr ⟨⟨c43_0_v, Nat.le_of_ble_eq_true rfl⟩, fun _ h => (by cases h)⟩⟩⟩) ext_nil (fun q h => (by cases h)) (enF c45_2_k) (fun _ h => (by cases h))

noncomputable def c41_4 : Ct := (41, 19, (5, [(0, (.negSucc 2147483647), (.ofNat 2147483647)), (1, (.ofNat 0), (.ofNat 60)), (2, (.negSucc 2147483647), (.ofNat 2147483647)), (3, (.ofNat 0), (.ofNat 60)), (4, (.ofNat 0), (.ofNat 60))], [((.ofNat 1), [(1, (.negSucc 0)), (3, (.ofNat 1))])], [.inr (.inl (some 0)), .inl (false, ((.ofNat 0), [(0, (.ofNat 1))])), .inl (false, ((.ofNat 6), []))], [zc198,
    zc192,
    zc89,
    .inr (1, .inr (.inl 60))], []),
  [((8, [(5, (.negSucc 2147483647), (.ofNat 2147483647)), (6, (.ofNat 0), (.ofNat 60)), (7, (.ofNat 0), (.ofNat 60))], [], [], [zc201,
    zc192,
    zc89,
    .inr (1, .inr (.inl 60))], []), 0, 0)])
noncomputable def c41_4_e : List Ct := [c42_0, c43_0, c44_0, c45_2]
noncomputable def c41_4_pts : List PE := []
set_option maxRecDepth 100000 in
theorem c41_4_k : enCtF c41_4 c41_4_e (c41_4_pts ++ []) (none) noH 3000 = true := by decide +kernel
set_option maxRecDepth 100000 in
theorem c41_4_v : ValidC PPk c41_4 := ct_ok fpk noH_ok (d := 18) (ext := []) (pts := c41_4_pts) (env := c41_4_e) rfl (List.forall_mem_cons.mpr ⟨⟨c42_0_v, Nat.le_of_ble_eq_true rfl⟩, List.forall_mem_cons.mpr ⟨⟨c43_0_v, Nat.le_of_ble_eq_true rfl⟩, List.forall_mem_cons.mpr ⟨⟨c44_0_v, Nat.le_of_ble_eq_true rfl⟩, List.forall_mem_cons.mpr ⟨⟨c45_2_v, Nat.le_of_ble_eq_true rfl⟩, fun _ h => (by cases h)⟩⟩⟩⟩) ext_nil (fun q h => (by cases h)) (enF c41_4_k) (fun _ h => (by cases h))

noncomputable def c41_5 : Ct := (41, 2, (6, [(0, (.ofNat 0), (.ofNat 60)), (1, (.negSucc 2147483647), (.ofNat 2147483647)), (2, (.ofNat 0), (.ofNat 60)), (3, (.ofNat 0), (.ofNat 60))], [], [.inr (.inl (some 0)), .inl (false, ((.negSucc 0), [])), .inl (false, ((.ofNat 6), []))], [zc191,
    zc196,
    zc133,
    .inr (1, .inr (.inl 60))], []),
  [((7, [(6, (.negSucc 2147483647), (.ofNat 2147483647))], [], [], [zc197,
    zc196,
    zc133,
    .inr (1, .inr (.inl 60))], []), 0, 0)])
noncomputable def c41_5_e : List Ct := [c43_0]
noncomputable def c41_5_pts : List PE := []
set_option maxRecDepth 100000 in
theorem c41_5_k : enCtF c41_5 c41_5_e (c41_5_pts ++ []) (none) noH 3000 = true := by decide +kernel
set_option maxRecDepth 100000 in
theorem c41_5_v : ValidC PPk c41_5 := ct_ok fpk noH_ok (d := 1) (ext := []) (pts := c41_5_pts) (env := c41_5_e) rfl (List.forall_mem_cons.mpr ⟨⟨c43_0_v, Nat.le_of_ble_eq_true rfl⟩, fun _ h => (by cases h)⟩) ext_nil (fun q h => (by cases h)) (enF c41_5_k) (fun _ h => (by cases h))

noncomputable def c39_2 : Ct := (39, 20, (4, [(0, (.ofNat 0), (.ofNat 60)), (1, (.negSucc 2147483647), (.ofNat 2147483647)), (2, (.ofNat 0), (.ofNat 60)), (3, (.ofNat 0), (.ofNat 60))], [], [.inr (.inl (some 0)), .inl (false, ((.ofNat 6), []))], [zc191,
    zc192,
    zc89,
    .inr (1, .inr (.inl 60))], []),
  [((7, [(4, (.negSucc 2147483647), (.ofNat 2147483647)), (5, (.ofNat 0), (.ofNat 60)), (6, (.ofNat 0), (.ofNat 60))], [], [], [zc200,
    zc192,
    zc89,
    .inr (1, .inr (.inl 60))], []), 0, 0)])
noncomputable def c39_2_e : List Ct := [c40_0, c41_4, c41_5, c44_0]
noncomputable def c39_2_p0 : PE := (13, [0, 1, 2, 3, 4], (7, [(0, (.ofNat 1), (.ofNat 60)), (1, (.negSucc 0), (.negSucc 0)), (2, (.ofNat 0), (.ofNat 60)), (3, (.ofNat 0), (.ofNat 60)), (4, (.ofNat 0), (.ofNat 127)), (5, (.ofNat 0), (.ofNat 60)), (6, (.ofNat 0), (.ofNat 59))], [((.ofNat 1), [(0, (.negSucc 0)), (6, (.ofNat 1))])], [.inr (.inl (some 0)), .inl (false, ((.ofNat 6), [])), .inl (false, ((.ofNat 0), [(2, (.ofNat 1))])), .inl (false, ((.ofNat 0), [(4, (.ofNat 1))])), .inl (false, ((.ofNat 0), [(5, (.ofNat 1))]))], [zc194,
    zc192,
    zc89,
    .inr (1, .inr (.inl 60))], []), symsL 4 0, some ((.ofNat 182), [(5, (.negSucc 0))]), 0, 0)
noncomputable def c39_2_p1 : PE := (13, [0, 1, 2, 3, 4], (6, [(0, (.ofNat 0), (.ofNat 60)), (1, (.negSucc 2147483647), (.ofNat 2147483647)), (2, (.ofNat 0), (.ofNat 60)), (3, (.ofNat 0), (.ofNat 60)), (4, (.ofNat 0), (.ofNat 60)), (5, (.ofNat 0), (.ofNat 60))], [], [.inr (.inl (some 0)), .inl (false, ((.ofNat 6), [])), .inl (false, ((.ofNat 0), [(2, (.ofNat 1))])), .inl (false, ((.negSucc 0), [])), .inl (false, ((.ofNat 0), [(4, (.ofNat 1))]))], [zc193,
    zc192,
    zc89,
    .inr (1, .inr (.inl 60))], []), symsL 4 0, some ((.ofNat 182), [(4, (.negSucc 0))]), 0, 0)
noncomputable def c39_2_p2 : PE := (71, [0, 1, 2, 3, 4, 5], (10, [(0, (.ofNat 0), (.ofNat 60)), (1, (.negSucc 2147483647), (.ofNat 2147483647)), (2, (.ofNat 0), (.ofNat 60)), (3, (.ofNat 0), (.ofNat 60)), (4, (.negSucc 0), (.ofNat 127)), (5, (.ofNat 0), (.ofNat 60)), (6, (.negSucc 0), (.ofNat 59)), (7, (.negSucc 2147483647), (.ofNat 2147483647)), (8, (.ofNat 0), (.ofNat 60)), (9, (.ofNat 0), (.ofNat 60))], [], [.inr (.inl (some 0)), .inl (false, ((.ofNat 6), [])), .inl (false, ((.ofNat 0), [(2, (.ofNat 1))])), .inl (false, ((.ofNat 0), [(4, (.ofNat 1))])), .inl (false, ((.ofNat 0), [(5, (.ofNat 1))])), .inl (false, ((.ofNat 0), [(6, (.ofNat 1))]))], [zc202,
    zc192,
    zc89,
    .inr (1, .inr (.inl 60))], []), symsL 4 0, some ((.ofNat 62), [(6, (.ofNat 1))]), 0, 0)
noncomputable def c39_2_pts : List PE := [c39_2_p0, c39_2_p1, c39_2_p2]
set_option maxRecDepth 100000 in
theorem c39_2_k : enCtF c39_2 c39_2_e (c39_2_pts ++ []) (none) (noF, noM, 2361183241434822615040, 0, 4) 3000 = true := by decide +kernel
set_option maxRecDepth 100000 in
theorem c39_2_k0 : ptCtF c39_2 c39_2_e (c39_2_pts ++ []) (noF, noM, 2361183241434822615040, 0, 4) 3000 c39_2_p0 = true := by decide +kernel
set_option maxRecDepth 100000 in
theorem c39_2_k1 : ptCtF c39_2 c39_2_e (c39_2_pts ++ []) (noF, noM, 2361183241434822615040, 0, 4) 3000 c39_2_p1 = true := by decide +kernel
set_option maxRecDepth 100000 in
theorem c39_2_k2 : ptCtF c39_2 c39_2_e (c39_2_pts ++ []) (noF, noM, 2361183241434822615040, 0, 4) 3000 c39_2_p2 = true := by decide +kernel
set_option maxRecDepth 100000 in
theorem c39_2_v : ValidC PPk c39_2 := ct_ok fpk ⟨noF_ok, noM_ok⟩ (d := 19) (ext := []) (pts := c39_2_pts) (env := c39_2_e) rfl (List.forall_mem_cons.mpr ⟨⟨c40_0_v, Nat.le_of_ble_eq_true rfl⟩, List.forall_mem_cons.mpr ⟨⟨c41_4_v, Nat.le_of_ble_eq_true rfl⟩, List.forall_mem_cons.mpr ⟨⟨c41_5_v, Nat.le_of_ble_eq_true rfl⟩, List.forall_mem_cons.mpr ⟨⟨c44_0_v, Nat.le_of_ble_eq_true rfl⟩, fun _ h => (by cases h)⟩⟩⟩⟩) ext_nil (fun q h => (by cases h)) (enF c39_2_k) (List.forall_mem_cons.mpr ⟨ptF c39_2_k0, List.forall_mem_cons.mpr ⟨ptF c39_2_k1, List.forall_mem_cons.mpr ⟨ptF c39_2_k2, fun _ h => (by cases h)⟩⟩⟩)

noncomputable def c38_2 : Ct := (38, 21, (4, [(0, (.ofNat 0), (.ofNat 60)), (1, (.negSucc 2147483647), (.ofNat 2147483647)), (2, (.ofNat 0), (.ofNat 60)), (3, (.ofNat 0), (.ofNat 60))], [], [.inr (.inl (some 0)), .inl (false, ((.ofNat 6), []))], [zc191,
    zc192,
    zc89,
    .inr (1, .inr (.inl 60))], []),
  [((7, [(4, (.negSucc 2147483647), (.ofNat 2147483647)), (5, (.ofNat 0), (.ofNat 60)), (6, (.ofNat 0), (.ofNat 60))], [], [], [zc200,
    zc192,
    zc89,
    .inr (1, .inr (.inl 60))], []), 0, 0)])
noncomputable def c38_2_e : List Ct := [c39_2, c40_0, c44_0]
noncomputable def c38_2_p0 : PE := (7, [0, 1, 2], (7, [(0, (.ofNat 0), (.ofNat 60)), (1, (.negSucc 2147483647), (.ofNat 2147483647)), (2, (.ofNat 0), (.ofNat 60)), (3, (.ofNat 0), (.ofNat 60)), (4, (.negSucc 2147483647), (.ofNat 2147483647)), (5, (.ofNat 0), (.ofNat 60)), (6, (.ofNat 0), (.ofNat 60))], [], [.inr (.inl (some 0)), .inl (false, ((.ofNat 6), [])), .inl (false, ((.ofNat 0), []))], [zc200,
    zc192,
    zc89,
    .inr (1, .inr (.inl 60))], []), symsL 4 0, some ((.ofNat 121), []), 0, 0)
noncomputable def c38_2_p1 : PE := (7, [0, 1, 2, 3], (9, [(0, (.ofNat 1), (.ofNat 60)), (1, (.negSucc 2147483647), (.ofNat 2147483647)), (2, (.ofNat 0), (.ofNat 60)), (3, (.ofNat 0), (.ofNat 60)), (4, (.ofNat 1), (.ofNat 60)), (5, (.ofNat 42), (.ofNat 47)), (6, (.negSucc 2147483647), (.ofNat 2147483647)), (7, (.ofNat 0), (.ofNat 60)), (8, (.ofNat 1), (.ofNat 60))], [], [.inr (.inl (some 0)), .inl (false, ((.ofNat 6), [])), .inl (false, ((.ofNat 0), [(4, (.ofNat 1))])), .inl (false, ((.ofNat 0), [(5, (.ofNat 1))]))], [zc203,
    zc192,
    zc89,
    .inr (1, .inr (.inl 60))], []), symsL 4 0, some ((.ofNat 121), [(4, (.negSucc 0))]), 0, 0)
noncomputable def c38_2_pts : List PE := [c38_2_p0, c38_2_p1]
set_option maxRecDepth 100000 in
theorem c38_2_k : enCtF c38_2 c38_2_e (c38_2_pts ++ []) (none) (noF, noM, 128, 0, 4) 3000 = true := by decide +kernel
set_option maxRecDepth 100000 in
theorem c38_2_k0 : ptCtF c38_2 c38_2_e (c38_2_pts ++ []) (noF, noM, 128, 0, 4) 3000 c38_2_p0 = true := by decide +kernel
set_option maxRecDepth 100000 in
theorem c38_2_k1 : ptCtF c38_2 c38_2_e (c38_2_pts ++ []) (noF, noM, 128, 0, 4) 3000 c38_2_p1 = true := by decide +kernel
set_option maxRecDepth 100000 in
theorem c38_2_v : ValidC PPk c38_2 := ct_ok fpk ⟨noF_ok, noM_ok⟩ (d := 20) (ext := []) (pts := c38_2_pts) (env := c38_2_e) rfl (List.forall_mem_cons.mpr ⟨⟨c39_2_v, Nat.le_of_ble_eq_true rfl⟩, List.forall_mem_cons.mpr ⟨⟨c40_0_v, Nat.le_of_ble_eq_true rfl⟩, List.forall_mem_cons.mpr ⟨⟨c44_0_v, Nat.le_of_ble_eq_true rfl⟩, fun _ h => (by cases h)⟩⟩⟩) ext_nil (fun q h => (by cases h)) (enF c38_2_k) (List.forall_mem_cons.mpr ⟨ptF c38_2_k0, List.forall_mem_cons.mpr ⟨ptF c38_2_k1, fun _ h => (by cases h)⟩⟩)
