/-! ===== contracts ===== -/
def c145_0 : Ct := (145, 1, (3, [(0, (.negSucc 2147483647), (.ofNat 2147483647)), (1, (.negSucc 2147483647), (.ofNat 2147483647)), (2, (.negSucc 2147483647), (.ofNat 2147483647))], [], [.inl (false, ((.ofNat 0), [(0, (.ofNat 1))])), .inl (false, ((.ofNat 0), [(1, (.ofNat 1))])), .inl (false, ((.ofNat 0), [(2, (.ofNat 1))]))], [], []),
  [((3, [(0, (.negSucc 2147483647), (.ofNat 2147483646)), (1, (.negSucc 2147483646), (.ofNat 2147483647))], [((.ofNat 1), [(0, (.ofNat 1)), (1, (.negSucc 0))])], [.inl (false, ((.ofNat 0), []))], [], []), 0, 0),
   ((3, [(0, (.negSucc 2147483646), (.ofNat 2147483647)), (2, (.negSucc 2147483647), (.ofNat 2147483646))], [((.ofNat 1), [(0, (.negSucc 0)), (2, (.ofNat 1))]), ((.ofNat 0), [(0, (.negSucc 0)), (1, (.ofNat 1))])], [.inl (false, ((.ofNat 0), []))], [], []), 0, 0),
   ((3, [], [((.ofNat 0), [(0, (.ofNat 1)), (2, (.negSucc 0))]), ((.ofNat 0), [(0, (.negSucc 0)), (1, (.ofNat 1))])], [.inl (false, ((.ofNat 1), []))], [], []), 0, 0)])
def c145_0_e : List Ct := []
def c145_0_pts : List PE := []
set_option maxRecDepth 100000 in
theorem c145_0_k : enCt c145_0 c145_0_e (c145_0_pts ++ []) (none) noH 3000 = true := by decide +kernel
theorem c145_0_v : ValidC PPk c145_0 := ct_ok fpk noH_ok (d := 0) (ext := []) (pts := c145_0_pts) (env := c145_0_e) rfl (fun _ h => (by cases h)) ext_nil (fun q h => (by cases h)) c145_0_k (fun _ h => (by cases h))
def c147_0 : Ct := (147, 2, (4, [(0, (.negSucc 2147483647), (.ofNat 2147483647)), (1, (.negSucc 2147483647), (.ofNat 2147483647)), (2, (.negSucc 2147483647), (.ofNat 2147483647)), (3, (.negSucc 2147483647), (.ofNat 2147483647))], [], [.inl (false, ((.ofNat 0), [(0, (.ofNat 1))])), .inl (false, ((.ofNat 0), [(1, (.ofNat 1))])), .inl (false, ((.ofNat 0), [(2, (.ofNat 1))])), .inl (false, ((.ofNat 0), [(3, (.ofNat 1))]))], [], []),
  [((4, [(0, (.negSucc 2147483647), (.negSucc 0))], [], [.inl (false, ((.ofNat 0), []))], [], []), 0, 0),
   ((4, [(0, (.ofNat 11), (.ofNat 2147483647))], [], [.inl (false, ((.ofNat 0), []))], [], []), 0, 0),
   ((4, [(0, (.ofNat 0), (.ofNat 10)), (1, (.negSucc 2147483647), (.negSucc 0))], [], [.inl (false, ((.ofNat 0), []))], [], []), 0, 0),
   ((4, [(0, (.ofNat 0), (.ofNat 10)), (1, (.ofNat 12), (.ofNat 2147483647))], [], [.inl (false, ((.ofNat 0), []))], [], []), 0, 0),
   ((4, [(0, (.ofNat 0), (.ofNat 0)), (1, (.ofNat 0), (.ofNat 11))], [], [.inl (false, ((.ofNat 1), []))], [], []), 0, 0),
   ((4, [(0, (.ofNat 1), (.ofNat 1)), (1, (.ofNat 0), (.ofNat 11)), (2, (.negSucc 2147483647), (.negSucc 0))], [], [.inl (false, ((.ofNat 0), []))], [], []), 0, 0),
   ((4, [(0, (.ofNat 1), (.ofNat 1)), (1, (.ofNat 0), (.ofNat 11)), (2, (.ofNat 12), (.ofNat 2147483647))], [], [.inl (false, ((.ofNat 0), []))], [], []), 0, 0),
   ((4, [(0, (.ofNat 1), (.ofNat 1)), (1, (.ofNat 0), (.ofNat 11)), (2, (.ofNat 0), (.ofNat 11)), (3, (.negSucc 2147483647), (.negSucc 0))], [], [.inl (false, ((.ofNat 0), []))], [], []), 0, 0),
   ((4, [(0, (.ofNat 1), (.ofNat 1)), (1, (.ofNat 0), (.ofNat 11)), (2, (.ofNat 0), (.ofNat 11)), (3, (.ofNat 12), (.ofNat 2147483647))], [], [.inl (false, ((.ofNat 0), []))], [], []), 0, 0),
   ((4, [(0, (.ofNat 1), (.ofNat 1)), (1, (.ofNat 0), (.ofNat 11)), (2, (.ofNat 0), (.ofNat 11)), (3, (.ofNat 0), (.ofNat 11))], [], [.inl (false, ((.ofNat 1), []))], [], []), 0, 0),
   ((4, [(0, (.ofNat 2), (.ofNat 2)), (1, (.ofNat 0), (.ofNat 11)), (2, (.negSucc 2147483647), (.negSucc 0))], [], [.inl (false, ((.ofNat 0), []))], [], []), 0, 0),
   ((4, [(0, (.ofNat 2), (.ofNat 2)), (1, (.ofNat 0), (.ofNat 11)), (2, (.ofNat 12), (.ofNat 2147483647))], [], [.inl (false, ((.ofNat 0), []))], [], []), 0, 0),
   ((4, [(0, (.ofNat 2), (.ofNat 2)), (1, (.ofNat 0), (.ofNat 11)), (2, (.ofNat 0), (.ofNat 11)), (3, (.negSucc 2147483647), (.negSucc 0))], [], [.inl (false, ((.ofNat 0), []))], [], []), 0, 0),
   ((4, [(0, (.ofNat 2), (.ofNat 2)), (1, (.ofNat 0), (.ofNat 11)), (2, (.ofNat 0), (.ofNat 11)), (3, (.ofNat 12), (.ofNat 2147483647))], [], [.inl (false, ((.ofNat 0), []))], [], []), 0, 0),
   ((4, [(0, (.ofNat 2), (.ofNat 2)), (1, (.ofNat 0), (.ofNat 11)), (2, (.ofNat 0), (.ofNat 11)), (3, (.ofNat 0), (.ofNat 11))], [], [.inl (false, ((.ofNat 1), []))], [], []), 0, 0),
   ((4, [(0, (.ofNat 3), (.ofNat 3)), (1, (.ofNat 0), (.ofNat 11)), (2, (.negSucc 2147483647), (.negSucc 0))], [], [.inl (false, ((.ofNat 0), []))], [], []), 0, 0),
   ((4, [(0, (.ofNat 3), (.ofNat 3)), (1, (.ofNat 0), (.ofNat 11)), (2, (.ofNat 12), (.ofNat 2147483647))], [], [.inl (false, ((.ofNat 0), []))], [], []), 0, 0),
   ((4, [(0, (.ofNat 3), (.ofNat 3)), (1, (.ofNat 0), (.ofNat 11)), (2, (.ofNat 0), (.ofNat 11)), (3, (.negSucc 2147483647), (.negSucc 0))], [], [.inl (false, ((.ofNat 0), []))], [], []), 0, 0),
   ((4, [(0, (.ofNat 3), (.ofNat 3)), (1, (.ofNat 0), (.ofNat 11)), (2, (.ofNat 0), (.ofNat 11)), (3, (.ofNat 12), (.ofNat 2147483647))], [], [.inl (false, ((.ofNat 0), []))], [], []), 0, 0),
   ((4, [(0, (.ofNat 3), (.ofNat 3)), (1, (.ofNat 0), (.ofNat 11)), (2, (.ofNat 0), (.ofNat 11)), (3, (.ofNat 0), (.ofNat 11))], [], [.inl (false, ((.ofNat 1), []))], [], []), 0, 0),
   ((4, [(0, (.ofNat 4), (.ofNat 4)), (1, (.ofNat 0), (.ofNat 11)), (2, (.negSucc 2147483647), (.negSucc 0))], [], [.inl (false, ((.ofNat 0), []))], [], []), 0, 0),
   ((4, [(0, (.ofNat 4), (.ofNat 4)), (1, (.ofNat 0), (.ofNat 11)), (2, (.ofNat 12), (.ofNat 2147483647))], [], [.inl (false, ((.ofNat 0), []))], [], []), 0, 0),
   ((4, [(0, (.ofNat 4), (.ofNat 4)), (1, (.ofNat 0), (.ofNat 11)), (2, (.ofNat 0), (.ofNat 11)), (3, (.negSucc 2147483647), (.negSucc 0))], [], [.inl (false, ((.ofNat 0), []))], [], []), 0, 0),
   ((4, [(0, (.ofNat 4), (.ofNat 4)), (1, (.ofNat 0), (.ofNat 11)), (2, (.ofNat 0), (.ofNat 11)), (3, (.ofNat 12), (.ofNat 2147483647))], [], [.inl (false, ((.ofNat 0), []))], [], []), 0, 0),
   ((4, [(0, (.ofNat 4), (.ofNat 4)), (1, (.ofNat 0), (.ofNat 11)), (2, (.ofNat 0), (.ofNat 11)), (3, (.ofNat 0), (.ofNat 11))], [], [.inl (false, ((.ofNat 1), []))], [], []), 0, 0),
   ((4, [(0, (.ofNat 5), (.ofNat 5)), (1, (.ofNat 0), (.ofNat 11)), (2, (.negSucc 2147483647), (.negSucc 0))], [], [.inl (false, ((.ofNat 0), []))], [], []), 0, 0),
   ((4, [(0, (.ofNat 5), (.ofNat 5)), (1, (.ofNat 0), (.ofNat 11)), (2, (.ofNat 12), (.ofNat 2147483647))], [], [.inl (false, ((.ofNat 0), []))], [], []), 0, 0),
   ((4, [(0, (.ofNat 5), (.ofNat 5)), (1, (.ofNat 0), (.ofNat 11)), (2, (.ofNat 0), (.ofNat 11)), (3, (.negSucc 2147483647), (.negSucc 0))], [], [.inl (false, ((.ofNat 0), []))], [], []), 0, 0),
   ((4, [(0, (.ofNat 5), (.ofNat 5)), (1, (.ofNat 0), (.ofNat 11)), (2, (.ofNat 0), (.ofNat 11)), (3, (.ofNat 12), (.ofNat 2147483647))], [], [.inl (false, ((.ofNat 0), []))], [], []), 0, 0),
   ((4, [(0, (.ofNat 5), (.ofNat 5)), (1, (.ofNat 0), (.ofNat 11)), (2, (.ofNat 0), (.ofNat 11)), (3, (.ofNat 0), (.ofNat 11))], [], [.inl (false, ((.ofNat 1), []))], [], []), 0, 0),
   ((4, [(0, (.ofNat 6), (.ofNat 6)), (1, (.ofNat 0), (.ofNat 11)), (2, (.negSucc 2147483647), (.negSucc 0))], [], [.inl (false, ((.ofNat 0), []))], [], []), 0, 0),
   ((4, [(0, (.ofNat 6), (.ofNat 6)), (1, (.ofNat 0), (.ofNat 11)), (2, (.ofNat 12), (.ofNat 2147483647))], [], [.inl (false, ((.ofNat 0), []))], [], []), 0, 0),
   ((4, [(0, (.ofNat 6), (.ofNat 6)), (1, (.ofNat 0), (.ofNat 11)), (2, (.ofNat 0), (.ofNat 11)), (3, (.negSucc 2147483647), (.negSucc 0))], [], [.inl (false, ((.ofNat 0), []))], [], []), 0, 0),
   ((4, [(0, (.ofNat 6), (.ofNat 6)), (1, (.ofNat 0), (.ofNat 11)), (2, (.ofNat 0), (.ofNat 11)), (3, (.ofNat 12), (.ofNat 2147483647))], [], [.inl (false, ((.ofNat 0), []))], [], []), 0, 0),
   ((4, [(0, (.ofNat 6), (.ofNat 6)), (1, (.ofNat 0), (.ofNat 11)), (2, (.ofNat 0), (.ofNat 11)), (3, (.ofNat 0), (.ofNat 11))], [], [.inl (false, ((.ofNat 1), []))], [], []), 0, 0),
   ((4, [(0, (.ofNat 7), (.ofNat 7)), (1, (.ofNat 0), (.ofNat 11)), (2, (.negSucc 2147483647), (.ofNat 0))], [], [.inl (false, ((.ofNat 0), []))], [], []), 0, 0),
   ((4, [(0, (.ofNat 7), (.ofNat 7)), (1, (.ofNat 0), (.ofNat 11)), (2, (.ofNat 21), (.ofNat 2147483647))], [], [.inl (false, ((.ofNat 0), []))], [], []), 0, 0),
   ((4, [(0, (.ofNat 7), (.ofNat 7)), (1, (.ofNat 0), (.ofNat 11)), (2, (.ofNat 1), (.ofNat 20))], [], [.inl (false, ((.ofNat 1), []))], [], []), 0, 0),
   ((4, [(0, (.ofNat 8), (.ofNat 8)), (1, (.ofNat 0), (.ofNat 11)), (2, (.negSucc 2147483647), (.negSucc 0))], [], [.inl (false, ((.ofNat 0), []))], [], []), 0, 0),
   ((4, [(0, (.ofNat 8), (.ofNat 8)), (1, (.ofNat 0), (.ofNat 11)), (2, (.ofNat 2), (.ofNat 2147483647))], [], [.inl (false, ((.ofNat 0), []))], [], []), 0, 0),
   ((4, [(0, (.ofNat 8), (.ofNat 8)), (1, (.ofNat 0), (.ofNat 11)), (2, (.ofNat 0), (.ofNat 1))], [], [.inl (false, ((.ofNat 1), []))], [], []), 0, 0),
   ((4, [(0, (.ofNat 9), (.ofNat 9)), (1, (.ofNat 0), (.ofNat 11)), (2, (.negSucc 2147483647), (.negSucc 0))], [], [.inl (false, ((.ofNat 0), []))], [], []), 0, 0),
   ((4, [(0, (.ofNat 9), (.ofNat 9)), (1, (.ofNat 0), (.ofNat 11)), (2, (.ofNat 8), (.ofNat 2147483647))], [], [.inl (false, ((.ofNat 0), []))], [], []), 0, 0),
   ((4, [(0, (.ofNat 9), (.ofNat 9)), (1, (.ofNat 0), (.ofNat 11)), (2, (.ofNat 0), (.ofNat 7))], [], [.inl (false, ((.ofNat 1), []))], [], []), 0, 0),
   ((4, [(0, (.ofNat 10), (.ofNat 10)), (1, (.ofNat 0), (.ofNat 11)), (2, (.negSucc 2147483647), (.ofNat 0))], [], [.inl (false, ((.ofNat 0), []))], [], []), 0, 0),
   ((4, [(0, (.ofNat 10), (.ofNat 10)), (1, (.ofNat 0), (.ofNat 11)), (2, (.ofNat 21), (.ofNat 2147483647))], [], [.inl (false, ((.ofNat 0), []))], [], []), 0, 0),
   ((4, [(0, (.ofNat 10), (.ofNat 10)), (1, (.ofNat 0), (.ofNat 11)), (2, (.ofNat 1), (.ofNat 20))], [], [.inl (false, ((.ofNat 1), []))], [], []), 0, 0)])
def c147_0_e : List Ct := [c145_0]
def c147_0_pts : List PE := []
set_option maxRecDepth 100000 in
theorem c147_0_k : enCt c147_0 c147_0_e (c147_0_pts ++ []) (none) noH 3000 = true := by decide +kernel
theorem c147_0_v : ValidC PPk c147_0 := ct_ok fpk noH_ok (d := 1) (ext := []) (pts := c147_0_pts) (env := c147_0_e) rfl (List.forall_mem_cons.mpr ⟨⟨c145_0_v, Nat.le_of_ble_eq_true rfl⟩, fun _ h => (by cases h)⟩) ext_nil (fun q h => (by cases h)) c147_0_k (fun _ h => (by cases h))
def zc0 : AC := .inl (12, [.inr (.inl (some 1)), .inr (.inl (some 2)), .inr (.inl (some 3)), .inl (false, ((.ofNat 0), [(3, (.ofNat 1))])), .inr (.inl (some 4)), .inr (.inl (some 5)), .inl (false, ((.ofNat 0), [(4, (.ofNat 1))])), .inr (.inl (some 6)), .inr (.inl (some 7)), .inl (false, ((.ofNat 0), [(5, (.ofNat 1))])), .inr (.inl (some 8)), .inl (false, ((.ofNat 0), [(6, (.ofNat 1))])), .inr (.inl (some 9)), .inr (.inl (some 10)), .inr (.inl (some 11)), .inr (.inl (some 12)), .inl (false, ((.ofNat 0), [(7, (.ofNat 1))])), .inl (false, ((.ofNat 0), [(8, (.ofNat 1))])), .inl (false, ((.ofNat 0), [(9, (.ofNat 1))])), .inr (.inl (some 13)), .inl (false, ((.ofNat 0), [(10, (.ofNat 1))])), .inl (false, ((.ofNat 0), [(11, (.ofNat 1))])), .inl (false, ((.ofNat 0), [(12, (.ofNat 1))])), .inr (.inl (some 14))])
def zc1 : AC := .inr (0, .inl [.inl ((.ofNat 0), [(13, (.ofNat 1))]), .inl ((.ofNat 0), [(14, (.ofNat 1))]), .inl ((.ofNat 0), [(15, (.ofNat 1))]), .inl ((.ofNat 0), [(16, (.ofNat 1))]), .inl ((.ofNat 0), [(17, (.ofNat 1))]), .inl ((.ofNat 0), [(18, (.ofNat 1))]), .inl ((.ofNat 0), [(19, (.ofNat 1))]), .inl ((.ofNat 0), [(20, (.ofNat 1))]), .inr (5, (.negSucc 2147483647), (.ofNat 2147483647)), .inr (1, (.ofNat 0), (.ofNat 3)), .inl ((.ofNat 0), [(21, (.ofNat 1))]), .inr (2, (.negSucc 2147483647), (.ofNat 2147483647)), .inr (1, (.ofNat 1), (.ofNat 1000)), .inr (1, (.ofNat 0), (.ofNat 50)), .inr (23, (.negSucc 2147483647), (.ofNat 2147483647)), .inl ((.ofNat 0), [(22, (.ofNat 1))]), .inr (39, (.negSucc 2147483647), (.ofNat 2147483647)), .inl ((.ofNat 0), [(23, (.ofNat 1))]), .inr (39, (.negSucc 2147483647), (.ofNat 2147483647)), .inl ((.ofNat 0), [(24, (.ofNat 1))]), .inr (39, (.negSucc 2147483647), (.ofNat 2147483647)), .inl ((.ofNat 0), [(25, (.ofNat 1))]), .inr (517, (.negSucc 2147483647), (.ofNat 2147483647)), .inr (12, (.ofNat 0), (.ofNat 60)), .inr (1, (.ofNat 0), (.ofNat 5)), .inr (1, (.ofNat 0), (.ofNat 39)), .inr (1, (.ofNat 0), (.ofNat 40)), .inr (1, (.ofNat 0), (.ofNat 5)), .inr (1, (.ofNat 0), (.ofNat 39)), .inr (1, (.ofNat 0), (.ofNat 40)), .inr (1, (.ofNat 0), (.ofNat 5)), .inr (1, (.ofNat 0), (.ofNat 39)), .inr (1, (.ofNat 0), (.ofNat 40)), .inr (1, (.ofNat 0), (.ofNat 5)), .inr (1, (.ofNat 0), (.ofNat 39)), .inr (1, (.ofNat 0), (.ofNat 40)), .inr (1, (.ofNat 0), (.ofNat 5)), .inr (1, (.ofNat 0), (.ofNat 39)), .inr (1, (.ofNat 0), (.ofNat 40)), .inr (1, (.ofNat 0), (.ofNat 5)), .inr (1, (.ofNat 0), (.ofNat 39)), .inr (1, (.ofNat 0), (.ofNat 40)), .inr (1, (.ofNat 0), (.ofNat 5)), .inr (1, (.ofNat 0), (.ofNat 39)), .inr (1, (.ofNat 0), (.ofNat 40)), .inr (1, (.ofNat 0), (.ofNat 5)), .inr (1, (.ofNat 0), (.ofNat 39)), .inr (1, (.ofNat 0), (.ofNat 40)), .inr (76, (.negSucc 2147483647), (.ofNat 2147483647)), .inr (2, (.negSucc 2147483647), (.ofNat 2147483647)), .inr (1, (.ofNat 0), (.ofNat 5)), .inr (2, (.negSucc 2147483647), (.ofNat 2147483647)), .inr (2, (.negSucc 2147483647), (.ofNat 2147483647)), .inr (1, (.ofNat 0), (.ofNat 5)), .inr (2, (.negSucc 2147483647), (.ofNat 2147483647)), .inr (2, (.negSucc 2147483647), (.ofNat 2147483647)), .inr (1, (.ofNat 0), (.ofNat 5)), .inr (2, (.negSucc 2147483647), (.ofNat 2147483647)), .inr (2, (.negSucc 2147483647), (.ofNat 2147483647)), .inr (1, (.ofNat 0), (.ofNat 5)), .inr (2, (.negSucc 2147483647), (.ofNat 2147483647)), .inr (2, (.negSucc 2147483647), (.ofNat 2147483647)), .inr (1, (.ofNat 0), (.ofNat 5)), .inr (2, (.negSucc 2147483647), (.ofNat 2147483647)), .inr (2, (.negSucc 2147483647), (.ofNat 2147483647)), .inr (1, (.ofNat 0), (.ofNat 5)), .inr (2, (.negSucc 2147483647), (.ofNat 2147483647)), .inr (2, (.negSucc 2147483647), (.ofNat 2147483647)), .inr (1, (.ofNat 0), (.ofNat 5)), .inr (2, (.negSucc 2147483647), (.ofNat 2147483647)), .inr (2, (.negSucc 2147483647), (.ofNat 2147483647)), .inr (1, (.ofNat 0), (.ofNat 5)), .inr (2, (.negSucc 2147483647), (.ofNat 2147483647)), .inr (60, (.ofNat 0), (.ofNat 127)), .inr (18, (.negSucc 2147483647), (.ofNat 2147483647))])
def zc2 : AC := .inr (100, .inl [.inl ((.ofNat 0), [(26, (.ofNat 1))])])
def zc3 : AC := .inr (103, .inl [.inl ((.ofNat 0), [(27, (.ofNat 1))])])
def zc4 : AC := .inr (100, .inl [.inl ((.ofNat 0), [(28, (.ofNat 1))])])
def zc5 : AC := .inr (100, .inl [.inl ((.ofNat 0), [(29, (.ofNat 1))])])
def zc6 : AC := .inr (100, .inl [.inl ((.ofNat 0), [(30, (.ofNat 1))])])
def zc7 : AC := .inr (100, .inl [.inl ((.ofNat 0), [(31, (.ofNat 1))])])
def zc8 : AC := .inr (100, .inl [.inl ((.ofNat 0), [(32, (.ofNat 1))])])
def zc9 : AC := .inr (100, .inl [.inl ((.ofNat 0), [(33, (.ofNat 1))])])
def zc10 : AC := .inr (100, .inl [.inl ((.ofNat 0), [(34, (.ofNat 1))])])
def zc11 : AC := .inr (100, .inl [.inl ((.ofNat 0), [(35, (.ofNat 1))])])
def c148_0 : Ct := (148, 1, (36, [(0, (.ofNat 0), (.ofNat 11)), (1, (.negSucc 2147483647), (.ofNat 2147483647)), (2, (.negSucc 2147483647), (.ofNat 2147483647)), (3, (.ofNat 0), (.ofNat 69)), (4, (.ofNat 0), (.ofNat 69)), (5, (.ofNat 0), (.ofNat 8)), (6, (.negSucc 2147483647), (.ofNat 2147483647)), (7, (.negSucc 2147483647), (.ofNat 2147483647)), (8, (.negSucc 2147483647), (.ofNat 2147483647)), (9, (.negSucc 2147483647), (.ofNat 2147483647)), (10, (.negSucc 2147483647), (.ofNat 2147483647)), (11, (.negSucc 2147483647), (.ofNat 2147483647)), (12, (.negSucc 2147483647), (.ofNat 2147483647)), (13, (.ofNat 1), (.ofNat 4)), (14, (.ofNat 0), (.ofNat 60)), (15, (.ofNat 0), (.ofNat 8)), (16, (.ofNat 0), (.ofNat 6)), (17, (.ofNat 0), (.ofNat 8)), (18, (.ofNat 0), (.ofNat 60)), (19, (.ofNat 0), (.ofNat 60)), (20, (.ofNat 0), (.ofNat 10)), (21, (.negSucc 2147483647), (.ofNat 2147483647)), (22, (.ofNat 0), (.ofNat 1)), (23, (.ofNat 0), (.ofNat 1)), (24, (.ofNat 0), (.ofNat 1)), (25, (.ofNat 0), (.ofNat 1))], [((.ofNat 1), [(22, (.negSucc 0)), (23, (.negSucc 0)), (24, (.negSucc 0)), (25, (.negSucc 0))])], [.inr (.inl (some 0)), .inl (false, ((.ofNat 440), [])), .inl (false, ((.ofNat 6), [])), .inl (false, ((.ofNat 0), [])), .inl (false, ((.ofNat 0), [(0, (.ofNat 1))])), .inl (false, ((.ofNat 0), [(1, (.ofNat 1))])), .inl (false, ((.ofNat 0), [(2, (.ofNat 1))]))], [zc0,
    zc1,
    zc2,
    zc3,
    zc4,
    zc5,
    zc6,
    .inr (1, .inr (.inl 70)),
    .inr (1, .inr (.inl 8)),
    zc7,
    zc8,
    zc9,
    zc10,
    zc11,
    .inr (1, .inr (.inl 4))], [(1, [1], []), (2, [1], [])]),
  [((36, [], [], [.inl (false, ((.ofNat 1), [(19, (.ofNat 1))]))], [zc0,
    .inr (0, .inl [.inl ((.ofNat 0), [(13, (.ofNat 1))]), .inl ((.ofNat 0), [(14, (.ofNat 1))]), .inl ((.ofNat 0), [(15, (.ofNat 1))]), .inl ((.ofNat 0), [(16, (.ofNat 1))]), .inl ((.ofNat 0), [(17, (.ofNat 1))]), .inl ((.ofNat 0), [(18, (.ofNat 1))]), .inl ((.ofNat 1), [(19, (.ofNat 1))]), .inl ((.ofNat 0), [(20, (.ofNat 1))]), .inr (5, (.negSucc 2147483647), (.ofNat 2147483647)), .inr (1, (.ofNat 0), (.ofNat 3)), .inl ((.ofNat 0), [(21, (.ofNat 1))]), .inr (2, (.negSucc 2147483647), (.ofNat 2147483647)), .inr (1, (.ofNat 1), (.ofNat 1000)), .inr (1, (.ofNat 0), (.ofNat 50)), .inr (23, (.negSucc 2147483647), (.ofNat 2147483647)), .inl ((.ofNat 0), [(22, (.ofNat 1))]), .inr (39, (.negSucc 2147483647), (.ofNat 2147483647)), .inl ((.ofNat 0), [(23, (.ofNat 1))]), .inr (39, (.negSucc 2147483647), (.ofNat 2147483647)), .inl ((.ofNat 0), [(24, (.ofNat 1))]), .inr (39, (.negSucc 2147483647), (.ofNat 2147483647)), .inl ((.ofNat 0), [(25, (.ofNat 1))]), .inr (517, (.negSucc 2147483647), (.ofNat 2147483647)), .inr (2, (.ofNat 0), (.ofNat 60)), .inr (2, (.negSucc 2147483647), (.ofNat 2147483647)), .inr (8, (.ofNat 0), (.ofNat 60)), .inr (1, (.ofNat 0), (.ofNat 5)), .inr (1, (.ofNat 0), (.ofNat 39)), .inr (1, (.ofNat 0), (.ofNat 40)), .inr (1, (.ofNat 0), (.ofNat 5)), .inr (1, (.ofNat 0), (.ofNat 39)), .inr (1, (.ofNat 0), (.ofNat 40)), .inr (1, (.ofNat 0), (.ofNat 5)), .inr (1, (.ofNat 0), (.ofNat 39)), .inr (1, (.ofNat 0), (.ofNat 40)), .inr (1, (.ofNat 0), (.ofNat 5)), .inr (1, (.ofNat 0), (.ofNat 39)), .inr (1, (.ofNat 0), (.ofNat 40)), .inr (1, (.ofNat 0), (.ofNat 5)), .inr (1, (.ofNat 0), (.ofNat 39)), .inr (1, (.ofNat 0), (.ofNat 40)), .inr (1, (.ofNat 0), (.ofNat 5)), .inr (1, (.ofNat 0), (.ofNat 39)), .inr (1, (.ofNat 0), (.ofNat 40)), .inr (1, (.ofNat 0), (.ofNat 5)), .inr (1, (.ofNat 0), (.ofNat 39)), .inr (1, (.ofNat 0), (.ofNat 40)), .inr (1, (.ofNat 0), (.ofNat 5)), .inr (1, (.ofNat 0), (.ofNat 39)), .inr (1, (.ofNat 0), (.ofNat 40)), .inr (78, (.negSucc 2147483647), (.ofNat 2147483647)), .inr (1, (.ofNat 0), (.ofNat 5)), .inr (4, (.negSucc 2147483647), (.ofNat 2147483647)), .inr (1, (.ofNat 0), (.ofNat 5)), .inr (4, (.negSucc 2147483647), (.ofNat 2147483647)), .inr (1, (.ofNat 0), (.ofNat 5)), .inr (4, (.negSucc 2147483647), (.ofNat 2147483647)), .inr (1, (.ofNat 0), (.ofNat 5)), .inr (4, (.negSucc 2147483647), (.ofNat 2147483647)), .inr (1, (.ofNat 0), (.ofNat 5)), .inr (4, (.negSucc 2147483647), (.ofNat 2147483647)), .inr (1, (.ofNat 0), (.ofNat 5)), .inr (4, (.negSucc 2147483647), (.ofNat 2147483647)), .inr (1, (.ofNat 0), (.ofNat 5)), .inr (4, (.negSucc 2147483647), (.ofNat 2147483647)), .inr (1, (.ofNat 0), (.ofNat 5)), .inr (2, (.negSucc 2147483647), (.ofNat 2147483647)), .inr (60, (.ofNat 0), (.ofNat 127)), .inr (18, (.negSucc 2147483647), (.ofNat 2147483647))]),
    zc2,
    zc3,
    zc4,
    zc5,
    zc6,
    .inr (1, .inr (.inl 70)),
    .inr (1, .inr (.inl 8)),
    zc7,
    zc8,
    zc9,
    zc10,
    zc11,
    .inr (1, .inr (.inl 4))], [(1, [1], []), (2, [1], [])]), 0, 0)])
def c148_0_e : List Ct := []
def c148_0_pts : List PE := []
set_option maxRecDepth 100000 in
theorem c148_0_k : enCt c148_0 c148_0_e (c148_0_pts ++ []) (some (19, 0, 61)) ((hOr (hOpen 12 307 1) (hClose 53 307 1)), noM, 0, 9007199254745088) 3000 = true := by decide +kernel
theorem c148_0_v : ValidC PPk c148_0 := ct_ok fpk ⟨(hOr_ok (hOpen_ok 12 307 1) (hClose_ok 53 307 1)), noM_ok⟩ (d := 0) (ext := []) (pts := c148_0_pts) (env := c148_0_e) rfl (fun _ h => (by cases h)) ext_nil (fun q h => (by cases h; exact Nat.le_of_ble_eq_true rfl)) c148_0_k (fun _ h => (by cases h))
def zc12 : AC := .inr (0, .inl [.inl ((.ofNat 0), [(13, (.ofNat 1))]), .inl ((.ofNat 0), [(14, (.ofNat 1))]), .inl ((.ofNat 0), [(15, (.ofNat 1))]), .inl ((.ofNat 0), [(16, (.ofNat 1))]), .inl ((.ofNat 0), [(17, (.ofNat 1))]), .inl ((.ofNat 0), [(18, (.ofNat 1))]), .inl ((.ofNat 1), [(19, (.ofNat 1))]), .inl ((.ofNat 0), [(20, (.ofNat 1))]), .inr (5, (.negSucc 2147483647), (.ofNat 2147483647)), .inr (1, (.ofNat 0), (.ofNat 3)), .inl ((.ofNat 0), [(21, (.ofNat 1))]), .inr (2, (.negSucc 2147483647), (.ofNat 2147483647)), .inr (1, (.ofNat 1), (.ofNat 1000)), .inr (1, (.ofNat 0), (.ofNat 50)), .inr (23, (.negSucc 2147483647), (.ofNat 2147483647)), .inl ((.ofNat 0), [(22, (.ofNat 1))]), .inr (39, (.negSucc 2147483647), (.ofNat 2147483647)), .inl ((.ofNat 0), [(23, (.ofNat 1))]), .inr (39, (.negSucc 2147483647), (.ofNat 2147483647)), .inl ((.ofNat 0), [(24, (.ofNat 1))]), .inr (39, (.negSucc 2147483647), (.ofNat 2147483647)), .inl ((.ofNat 0), [(25, (.ofNat 1))]), .inr (517, (.negSucc 2147483647), (.ofNat 2147483647)), .inr (12, (.ofNat 0), (.ofNat 60)), .inr (1, (.ofNat 0), (.ofNat 5)), .inr (1, (.ofNat 0), (.ofNat 39)), .inr (1, (.ofNat 0), (.ofNat 40)), .inr (1, (.ofNat 0), (.ofNat 5)), .inr (1, (.ofNat 0), (.ofNat 39)), .inr (1, (.ofNat 0), (.ofNat 40)), .inr (1, (.ofNat 0), (.ofNat 5)), .inr (1, (.ofNat 0), (.ofNat 39)), .inr (1, (.ofNat 0), (.ofNat 40)), .inr (1, (.ofNat 0), (.ofNat 5)), .inr (1, (.ofNat 0), (.ofNat 39)), .inr (1, (.ofNat 0), (.ofNat 40)), .inr (1, (.ofNat 0), (.ofNat 5)), .inr (1, (.ofNat 0), (.ofNat 39)), .inr (1, (.ofNat 0), (.ofNat 40)), .inr (1, (.ofNat 0), (.ofNat 5)), .inr (1, (.ofNat 0), (.ofNat 39)), .inr (1, (.ofNat 0), (.ofNat 40)), .inr (1, (.ofNat 0), (.ofNat 5)), .inr (1, (.ofNat 0), (.ofNat 39)), .inr (1, (.ofNat 0), (.ofNat 40)), .inr (1, (.ofNat 0), (.ofNat 5)), .inr (1, (.ofNat 0), (.ofNat 39)), .inr (1, (.ofNat 0), (.ofNat 40)), .inr (78, (.negSucc 2147483647), (.ofNat 2147483647)), .inr (1, (.ofNat 0), (.ofNat 5)), .inr (4, (.negSucc 2147483647), (.ofNat 2147483647)), .inr (1, (.ofNat 0), (.ofNat 5)), .inr (4, (.negSucc 2147483647), (.ofNat 2147483647)), .inr (1, (.ofNat 0), (.ofNat 5)), .inr (4, (.negSucc 2147483647), (.ofNat 2147483647)), .inr (1, (.ofNat 0), (.ofNat 5)), .inr (4, (.negSucc 2147483647), (.ofNat 2147483647)), .inr (1, (.ofNat 0), (.ofNat 5)), .inr (4, (.negSucc 2147483647), (.ofNat 2147483647)), .inr (1, (.ofNat 0), (.ofNat 5)), .inr (4, (.negSucc 2147483647), (.ofNat 2147483647)), .inr (1, (.ofNat 0), (.ofNat 5)), .inr (4, (.negSucc 2147483647), (.ofNat 2147483647)), .inr (1, (.ofNat 0), (.ofNat 5)), .inr (2, (.negSucc 2147483647), (.ofNat 2147483647)), .inr (60, (.ofNat 0), (.ofNat 127)), .inr (18, (.negSucc 2147483647), (.ofNat 2147483647))])
def c148_1 : Ct := (148, 1, (36, [(0, (.ofNat 0), (.ofNat 11)), (1, (.ofNat 0), (.ofNat 11)), (2, (.ofNat 0), (.ofNat 11)), (3, (.ofNat 0), (.ofNat 69)), (4, (.ofNat 0), (.ofNat 69)), (5, (.ofNat 0), (.ofNat 8)), (6, (.negSucc 2147483647), (.ofNat 2147483647)), (7, (.negSucc 2147483647), (.ofNat 2147483647)), (8, (.negSucc 2147483647), (.ofNat 2147483647)), (9, (.negSucc 2147483647), (.ofNat 2147483647)), (10, (.negSucc 2147483647), (.ofNat 2147483647)), (11, (.negSucc 2147483647), (.ofNat 2147483647)), (12, (.negSucc 2147483647), (.ofNat 2147483647)), (13, (.ofNat 1), (.ofNat 4)), (14, (.ofNat 0), (.ofNat 60)), (15, (.ofNat 0), (.ofNat 8)), (16, (.ofNat 0), (.ofNat 6)), (17, (.ofNat 0), (.ofNat 8)), (18, (.ofNat 0), (.ofNat 60)), (19, (.ofNat 0), (.ofNat 60)), (20, (.ofNat 0), (.ofNat 10)), (21, (.negSucc 2147483647), (.ofNat 2147483647)), (22, (.ofNat 0), (.ofNat 1)), (23, (.ofNat 0), (.ofNat 1)), (24, (.ofNat 0), (.ofNat 1)), (25, (.ofNat 0), (.ofNat 1))], [((.ofNat 1), [(22, (.negSucc 0)), (23, (.negSucc 0)), (24, (.negSucc 0)), (25, (.negSucc 0))])], [.inr (.inl (some 0)), .inl (false, ((.ofNat 440), [])), .inl (false, ((.ofNat 6), [])), .inl (false, ((.ofNat 1), [])), .inl (false, ((.ofNat 0), [(0, (.ofNat 1))])), .inl (false, ((.ofNat 0), [(1, (.ofNat 1))])), .inl (false, ((.ofNat 0), [(2, (.ofNat 1))]))], [zc0,
    zc1,
    zc2,
    zc3,
    zc4,
    zc5,
    zc6,
    .inr (1, .inr (.inl 70)),
    .inr (1, .inr (.inl 8)),
    zc7,
    zc8,
    zc9,
    zc10,
    zc11,
    .inr (1, .inr (.inl 4))], [(1, [1], []), (2, [1], [])]),
  [((36, [], [], [.inl (false, ((.ofNat 1), [(19, (.ofNat 1))]))], [zc0,
    zc12,
    zc2,
    zc3,
    zc4,
    zc5,
    zc6,
    .inr (1, .inr (.inl 70)),
    .inr (1, .inr (.inl 8)),
    zc7,
    zc8,
    zc9,
    zc10,
    zc11,
    .inr (1, .inr (.inl 4))], [(1, [1], []), (2, [1], [])]), 0, 0)])
def c148_1_e : List Ct := []
def c148_1_pts : List PE := []
set_option maxRecDepth 100000 in
theorem c148_1_k : enCt c148_1 c148_1_e (c148_1_pts ++ []) (some (19, 0, 61)) ((hOr (hOpen 12 307 1) (hClose 53 307 1)), noM, 0, 9007199254745088) 3000 = true := by decide +kernel
theorem c148_1_v : ValidC PPk c148_1 := ct_ok fpk ⟨(hOr_ok (hOpen_ok 12 307 1) (hClose_ok 53 307 1)), noM_ok⟩ (d := 0) (ext := []) (pts := c148_1_pts) (env := c148_1_e) rfl (fun _ h => (by cases h)) ext_nil (fun q h => (by cases h; exact Nat.le_of_ble_eq_true rfl)) c148_1_k (fun _ h => (by cases h))
def c148_2 : Ct := (148, 1, (36, [(0, (.ofNat 0), (.ofNat 11)), (1, (.ofNat 0), (.ofNat 11)), (2, (.ofNat 0), (.ofNat 11)), (3, (.ofNat 0), (.ofNat 69)), (4, (.ofNat 0), (.ofNat 69)), (5, (.ofNat 0), (.ofNat 8)), (6, (.negSucc 2147483647), (.ofNat 2147483647)), (7, (.negSucc 2147483647), (.ofNat 2147483647)), (8, (.negSucc 2147483647), (.ofNat 2147483647)), (9, (.negSucc 2147483647), (.ofNat 2147483647)), (10, (.negSucc 2147483647), (.ofNat 2147483647)), (11, (.negSucc 2147483647), (.ofNat 2147483647)), (12, (.negSucc 2147483647), (.ofNat 2147483647)), (13, (.ofNat 1), (.ofNat 4)), (14, (.ofNat 0), (.ofNat 60)), (15, (.ofNat 0), (.ofNat 8)), (16, (.ofNat 0), (.ofNat 6)), (17, (.ofNat 0), (.ofNat 8)), (18, (.ofNat 0), (.ofNat 60)), (19, (.ofNat 0), (.ofNat 60)), (20, (.ofNat 0), (.ofNat 10)), (21, (.negSucc 2147483647), (.ofNat 2147483647)), (22, (.ofNat 0), (.ofNat 1)), (23, (.ofNat 0), (.ofNat 1)), (24, (.ofNat 0), (.ofNat 1)), (25, (.ofNat 0), (.ofNat 1))], [((.ofNat 1), [(22, (.negSucc 0)), (23, (.negSucc 0)), (24, (.negSucc 0)), (25, (.negSucc 0))])], [.inr (.inl (some 0)), .inl (false, ((.ofNat 440), [])), .inl (false, ((.ofNat 6), [])), .inl (false, ((.ofNat 2), [])), .inl (false, ((.ofNat 0), [(0, (.ofNat 1))])), .inl (false, ((.ofNat 0), [(1, (.ofNat 1))])), .inl (false, ((.ofNat 0), [(2, (.ofNat 1))]))], [zc0,
    zc1,
    zc2,
    zc3,
    zc4,
    zc5,
    zc6,
    .inr (1, .inr (.inl 70)),
    .inr (1, .inr (.inl 8)),
    zc7,
    zc8,
    zc9,
    zc10,
    zc11,
    .inr (1, .inr (.inl 4))], [(1, [1], []), (2, [1], [])]),
  [((36, [], [], [.inl (false, ((.ofNat 1), [(19, (.ofNat 1))]))], [zc0,
    zc12,
    zc2,
    zc3,
    zc4,
    zc5,
    zc6,
    .inr (1, .inr (.inl 70)),
    .inr (1, .inr (.inl 8)),
    zc7,
    zc8,
    zc9,
    zc10,
    zc11,
    .inr (1, .inr (.inl 4))], [(1, [1], []), (2, [1], [])]), 0, 0)])
def c148_2_e : List Ct := []
def c148_2_pts : List PE := []
set_option maxRecDepth 100000 in
theorem c148_2_k : enCt c148_2 c148_2_e (c148_2_pts ++ []) (some (19, 0, 61)) ((hOr (hOpen 12 307 1) (hClose 53 307 1)), noM, 0, 9007199254745088) 3000 = true := by decide +kernel
theorem c148_2_v : ValidC PPk c148_2 := ct_ok fpk ⟨(hOr_ok (hOpen_ok 12 307 1) (hClose_ok 53 307 1)), noM_ok⟩ (d := 0) (ext := []) (pts := c148_2_pts) (env := c148_2_e) rfl (fun _ h => (by cases h)) ext_nil (fun q h => (by cases h; exact Nat.le_of_ble_eq_true rfl)) c148_2_k (fun _ h => (by cases h))
def c148_3 : Ct := (148, 1, (36, [(0, (.ofNat 0), (.ofNat 11)), (1, (.ofNat 0), (.ofNat 11)), (2, (.ofNat 0), (.ofNat 11)), (3, (.ofNat 0), (.ofNat 69)), (4, (.ofNat 0), (.ofNat 69)), (5, (.ofNat 0), (.ofNat 8)), (6, (.negSucc 2147483647), (.ofNat 2147483647)), (7, (.negSucc 2147483647), (.ofNat 2147483647)), (8, (.negSucc 2147483647), (.ofNat 2147483647)), (9, (.negSucc 2147483647), (.ofNat 2147483647)), (10, (.negSucc 2147483647), (.ofNat 2147483647)), (11, (.negSucc 2147483647), (.ofNat 2147483647)), (12, (.negSucc 2147483647), (.ofNat 2147483647)), (13, (.ofNat 1), (.ofNat 4)), (14, (.ofNat 0), (.ofNat 60)), (15, (.ofNat 0), (.ofNat 8)), (16, (.ofNat 0), (.ofNat 6)), (17, (.ofNat 0), (.ofNat 8)), (18, (.ofNat 0), (.ofNat 60)), (19, (.ofNat 0), (.ofNat 60)), (20, (.ofNat 0), (.ofNat 10)), (21, (.negSucc 2147483647), (.ofNat 2147483647)), (22, (.ofNat 0), (.ofNat 1)), (23, (.ofNat 0), (.ofNat 1)), (24, (.ofNat 0), (.ofNat 1)), (25, (.ofNat 0), (.ofNat 1))], [((.ofNat 1), [(22, (.negSucc 0)), (23, (.negSucc 0)), (24, (.negSucc 0)), (25, (.negSucc 0))])], [.inr (.inl (some 0)), .inl (false, ((.ofNat 440), [])), .inl (false, ((.ofNat 6), [])), .inl (false, ((.ofNat 3), [])), .inl (false, ((.ofNat 0), [(0, (.ofNat 1))])), .inl (false, ((.ofNat 0), [(1, (.ofNat 1))])), .inl (false, ((.ofNat 0), [(2, (.ofNat 1))]))], [zc0,
    zc1,
    zc2,
    zc3,
    zc4,
    zc5,
    zc6,
    .inr (1, .inr (.inl 70)),
    .inr (1, .inr (.inl 8)),
    zc7,
    zc8,
    zc9,
    zc10,
    zc11,
    .inr (1, .inr (.inl 4))], [(1, [1], []), (2, [1], [])]),
  [((36, [], [], [.inl (false, ((.ofNat 1), [(19, (.ofNat 1))]))], [zc0,
    zc12,
    zc2,
    zc3,
    zc4,
    zc5,
    zc6,
    .inr (1, .inr (.inl 70)),
    .inr (1, .inr (.inl 8)),
    zc7,
    zc8,
    zc9,
    zc10,
    zc11,
    .inr (1, .inr (.inl 4))], [(1, [1], []), (2, [1], [])]), 0, 0)])
def c148_3_e : List Ct := []
def c148_3_pts : List PE := []
set_option maxRecDepth 100000 in
theorem c148_3_k : enCt c148_3 c148_3_e (c148_3_pts ++ []) (some (19, 0, 61)) ((hOr (hOpen 12 307 1) (hClose 53 307 1)), noM, 0, 9007199254745088) 3000 = true := by decide +kernel
theorem c148_3_v : ValidC PPk c148_3 := ct_ok fpk ⟨(hOr_ok (hOpen_ok 12 307 1) (hClose_ok 53 307 1)), noM_ok⟩ (d := 0) (ext := []) (pts := c148_3_pts) (env := c148_3_e) rfl (fun _ h => (by cases h)) ext_nil (fun q h => (by cases h; exact Nat.le_of_ble_eq_true rfl)) c148_3_k (fun _ h => (by cases h))
def c148_4 : Ct := (148, 1, (36, [(0, (.ofNat 0), (.ofNat 11)), (1, (.ofNat 0), (.ofNat 11)), (2, (.ofNat 0), (.ofNat 11)), (3, (.ofNat 0), (.ofNat 69)), (4, (.ofNat 0), (.ofNat 69)), (5, (.ofNat 0), (.ofNat 8)), (6, (.negSucc 2147483647), (.ofNat 2147483647)), (7, (.negSucc 2147483647), (.ofNat 2147483647)), (8, (.negSucc 2147483647), (.ofNat 2147483647)), (9, (.negSucc 2147483647), (.ofNat 2147483647)), (10, (.negSucc 2147483647), (.ofNat 2147483647)), (11, (.negSucc 2147483647), (.ofNat 2147483647)), (12, (.negSucc 2147483647), (.ofNat 2147483647)), (13, (.ofNat 1), (.ofNat 4)), (14, (.ofNat 0), (.ofNat 60)), (15, (.ofNat 0), (.ofNat 8)), (16, (.ofNat 0), (.ofNat 6)), (17, (.ofNat 0), (.ofNat 8)), (18, (.ofNat 0), (.ofNat 60)), (19, (.ofNat 0), (.ofNat 60)), (20, (.ofNat 0), (.ofNat 10)), (21, (.negSucc 2147483647), (.ofNat 2147483647)), (22, (.ofNat 0), (.ofNat 1)), (23, (.ofNat 0), (.ofNat 1)), (24, (.ofNat 0), (.ofNat 1)), (25, (.ofNat 0), (.ofNat 1))], [((.ofNat 1), [(22, (.negSucc 0)), (23, (.negSucc 0)), (24, (.negSucc 0)), (25, (.negSucc 0))])], [.inr (.inl (some 0)), .inl (false, ((.ofNat 440), [])), .inl (false, ((.ofNat 6), [])), .inl (false, ((.ofNat 4), [])), .inl (false, ((.ofNat 0), [(0, (.ofNat 1))])), .inl (false, ((.ofNat 0), [(1, (.ofNat 1))])), .inl (false, ((.ofNat 0), [(2, (.ofNat 1))]))], [zc0,
    zc1,
    zc2,
    zc3,
    zc4,
    zc5,
    zc6,
    .inr (1, .inr (.inl 70)),
    .inr (1, .inr (.inl 8)),
    zc7,
    zc8,
    zc9,
    zc10,
    zc11,
    .inr (1, .inr (.inl 4))], [(1, [1], []), (2, [1], [])]),
  [((36, [], [], [.inl (false, ((.ofNat 1), [(19, (.ofNat 1))]))], [zc0,
    zc12,
    zc2,
    zc3,
    zc4,
    zc5,
    zc6,
    .inr (1, .inr (.inl 70)),
    .inr (1, .inr (.inl 8)),
    zc7,
    zc8,
    zc9,
    zc10,
    zc11,
    .inr (1, .inr (.inl 4))], [(1, [1], []), (2, [1], [])]), 0, 0)])
def c148_4_e : List Ct := []
def c148_4_pts : List PE := []
set_option maxRecDepth 100000 in
theorem c148_4_k : enCt c148_4 c148_4_e (c148_4_pts ++ []) (some (19, 0, 61)) ((hOr (hOpen 12 307 1) (hClose 53 307 1)), noM, 0, 9007199254745088) 3000 = true := by decide +kernel
theorem c148_4_v : ValidC PPk c148_4 := ct_ok fpk ⟨(hOr_ok (hOpen_ok 12 307 1) (hClose_ok 53 307 1)), noM_ok⟩ (d := 0) (ext := []) (pts := c148_4_pts) (env := c148_4_e) rfl (fun _ h => (by cases h)) ext_nil (fun q h => (by cases h; exact Nat.le_of_ble_eq_true rfl)) c148_4_k (fun _ h => (by cases h))
def c148_5 : Ct := (148, 1, (36, [(0, (.ofNat 0), (.ofNat 11)), (1, (.ofNat 0), (.ofNat 11)), (2, (.ofNat 0), (.ofNat 11)), (3, (.ofNat 0), (.ofNat 69)), (4, (.ofNat 0), (.ofNat 69)), (5, (.ofNat 0), (.ofNat 8)), (6, (.negSucc 2147483647), (.ofNat 2147483647)), (7, (.negSucc 2147483647), (.ofNat 2147483647)), (8, (.negSucc 2147483647), (.ofNat 2147483647)), (9, (.negSucc 2147483647), (.ofNat 2147483647)), (10, (.negSucc 2147483647), (.ofNat 2147483647)), (11, (.negSucc 2147483647), (.ofNat 2147483647)), (12, (.negSucc 2147483647), (.ofNat 2147483647)), (13, (.ofNat 1), (.ofNat 4)), (14, (.ofNat 0), (.ofNat 60)), (15, (.ofNat 0), (.ofNat 8)), (16, (.ofNat 0), (.ofNat 6)), (17, (.ofNat 0), (.ofNat 8)), (18, (.ofNat 0), (.ofNat 60)), (19, (.ofNat 0), (.ofNat 60)), (20, (.ofNat 0), (.ofNat 10)), (21, (.negSucc 2147483647), (.ofNat 2147483647)), (22, (.ofNat 0), (.ofNat 1)), (23, (.ofNat 0), (.ofNat 1)), (24, (.ofNat 0), (.ofNat 1)), (25, (.ofNat 0), (.ofNat 1))], [((.ofNat 1), [(22, (.negSucc 0)), (23, (.negSucc 0)), (24, (.negSucc 0)), (25, (.negSucc 0))])], [.inr (.inl (some 0)), .inl (false, ((.ofNat 440), [])), .inl (false, ((.ofNat 6), [])), .inl (false, ((.ofNat 5), [])), .inl (false, ((.ofNat 0), [(0, (.ofNat 1))])), .inl (false, ((.ofNat 0), [(1, (.ofNat 1))])), .inl (false, ((.ofNat 0), [(2, (.ofNat 1))]))], [zc0,
    zc1,
    zc2,
    zc3,
    zc4,
    zc5,
    zc6,
    .inr (1, .inr (.inl 70)),
    .inr (1, .inr (.inl 8)),
    zc7,
    zc8,
    zc9,
    zc10,
    zc11,
    .inr (1, .inr (.inl 4))], [(1, [1], []), (2, [1], [])]),
  [((36, [], [], [.inl (false, ((.ofNat 1), [(19, (.ofNat 1))]))], [zc0,
    zc12,
    zc2,
    zc3,
    zc4,
    zc5,
    zc6,
    .inr (1, .inr (.inl 70)),
    .inr (1, .inr (.inl 8)),
    zc7,
    zc8,
    zc9,
    zc10,
    zc11,
    .inr (1, .inr (.inl 4))], [(1, [1], []), (2, [1], [])]), 0, 0)])
def c148_5_e : List Ct := []
def c148_5_pts : List PE := []
set_option maxRecDepth 100000 in
theorem c148_5_k : enCt c148_5 c148_5_e (c148_5_pts ++ []) (some (19, 0, 61)) ((hOr (hOpen 12 307 1) (hClose 53 307 1)), noM, 0, 9007199254745088) 3000 = true := by decide +kernel
theorem c148_5_v : ValidC PPk c148_5 := ct_ok fpk ⟨(hOr_ok (hOpen_ok 12 307 1) (hClose_ok 53 307 1)), noM_ok⟩ (d := 0) (ext := []) (pts := c148_5_pts) (env := c148_5_e) rfl (fun _ h => (by cases h)) ext_nil (fun q h => (by cases h; exact Nat.le_of_ble_eq_true rfl)) c148_5_k (fun _ h => (by cases h))
def c148_6 : Ct := (148, 1, (36, [(0, (.ofNat 0), (.ofNat 11)), (1, (.ofNat 0), (.ofNat 11)), (2, (.ofNat 0), (.ofNat 11)), (3, (.ofNat 0), (.ofNat 69)), (4, (.ofNat 0), (.ofNat 69)), (5, (.ofNat 0), (.ofNat 8)), (6, (.negSucc 2147483647), (.ofNat 2147483647)), (7, (.negSucc 2147483647), (.ofNat 2147483647)), (8, (.negSucc 2147483647), (.ofNat 2147483647)), (9, (.negSucc 2147483647), (.ofNat 2147483647)), (10, (.negSucc 2147483647), (.ofNat 2147483647)), (11, (.negSucc 2147483647), (.ofNat 2147483647)), (12, (.negSucc 2147483647), (.ofNat 2147483647)), (13, (.ofNat 1), (.ofNat 4)), (14, (.ofNat 0), (.ofNat 60)), (15, (.ofNat 0), (.ofNat 8)), (16, (.ofNat 0), (.ofNat 6)), (17, (.ofNat 0), (.ofNat 8)), (18, (.ofNat 0), (.ofNat 60)), (19, (.ofNat 0), (.ofNat 60)), (20, (.ofNat 0), (.ofNat 10)), (21, (.negSucc 2147483647), (.ofNat 2147483647)), (22, (.ofNat 0), (.ofNat 1)), (23, (.ofNat 0), (.ofNat 1)), (24, (.ofNat 0), (.ofNat 1)), (25, (.ofNat 0), (.ofNat 1))], [((.ofNat 1), [(22, (.negSucc 0)), (23, (.negSucc 0)), (24, (.negSucc 0)), (25, (.negSucc 0))])], [.inr (.inl (some 0)), .inl (false, ((.ofNat 440), [])), .inl (false, ((.ofNat 6), [])), .inl (false, ((.ofNat 6), [])), .inl (false, ((.ofNat 0), [(0, (.ofNat 1))])), .inl (false, ((.ofNat 0), [(1, (.ofNat 1))])), .inl (false, ((.ofNat 0), [(2, (.ofNat 1))]))], [zc0,
    zc1,
    zc2,
    zc3,
    zc4,
    zc5,
    zc6,
    .inr (1, .inr (.inl 70)),
    .inr (1, .inr (.inl 8)),
    zc7,
    zc8,
    zc9,
    zc10,
    zc11,
    .inr (1, .inr (.inl 4))], [(1, [1], []), (2, [1], [])]),
  [((36, [], [], [.inl (false, ((.ofNat 1), [(19, (.ofNat 1))]))], [zc0,
    zc12,
    zc2,
    zc3,
    zc4,
    zc5,
    zc6,
    .inr (1, .inr (.inl 70)),
    .inr (1, .inr (.inl 8)),
    zc7,
    zc8,
    zc9,
    zc10,
    zc11,
    .inr (1, .inr (.inl 4))], [(1, [1], []), (2, [1], [])]), 0, 0)])
def c148_6_e : List Ct := []
def c148_6_pts : List PE := []
set_option maxRecDepth 100000 in
theorem c148_6_k : enCt c148_6 c148_6_e (c148_6_pts ++ []) (some (19, 0, 61)) ((hOr (hOpen 12 307 1) (hClose 53 307 1)), noM, 0, 9007199254745088) 3000 = true := by decide +kernel
theorem c148_6_v : ValidC PPk c148_6 := ct_ok fpk ⟨(hOr_ok (hOpen_ok 12 307 1) (hClose_ok 53 307 1)), noM_ok⟩ (d := 0) (ext := []) (pts := c148_6_pts) (env := c148_6_e) rfl (fun _ h => (by cases h)) ext_nil (fun q h => (by cases h; exact Nat.le_of_ble_eq_true rfl)) c148_6_k (fun _ h => (by cases h))
def zc13 : AC := .inr (0, .inl [.inl ((.ofNat 0), [(13, (.ofNat 1))]), .inl ((.ofNat 0), [(14, (.ofNat 1))]), .inl ((.ofNat 0), [(15, (.ofNat 1))]), .inl ((.ofNat 0), [(16, (.ofNat 1))]), .inl ((.ofNat 0), [(17, (.ofNat 1))]), .inl ((.ofNat 0), [(18, (.ofNat 1))]), .inl ((.ofNat 1), [(19, (.ofNat 1))]), .inl ((.ofNat 0), [(20, (.ofNat 1))]), .inr (5, (.negSucc 2147483647), (.ofNat 2147483647)), .inr (1, (.ofNat 0), (.ofNat 3)), .inl ((.ofNat 0), [(21, (.ofNat 1))]), .inr (2, (.negSucc 2147483647), (.ofNat 2147483647)), .inr (1, (.ofNat 1), (.ofNat 1000)), .inr (1, (.ofNat 0), (.ofNat 50)), .inr (23, (.negSucc 2147483647), (.ofNat 2147483647)), .inl ((.ofNat 0), [(22, (.ofNat 1))]), .inr (39, (.negSucc 2147483647), (.ofNat 2147483647)), .inl ((.ofNat 0), [(23, (.ofNat 1))]), .inr (39, (.negSucc 2147483647), (.ofNat 2147483647)), .inl ((.ofNat 0), [(24, (.ofNat 1))]), .inr (39, (.negSucc 2147483647), (.ofNat 2147483647)), .inl ((.ofNat 0), [(25, (.ofNat 1))]), .inr (517, (.negSucc 2147483647), (.ofNat 2147483647)), .inr (3, (.ofNat 0), (.ofNat 60)), .inr (1, (.negSucc 2147483647), (.ofNat 2147483647)), .inr (8, (.ofNat 0), (.ofNat 60)), .inr (1, (.ofNat 0), (.ofNat 5)), .inr (1, (.ofNat 0), (.ofNat 39)), .inr (1, (.ofNat 0), (.ofNat 40)), .inr (1, (.ofNat 0), (.ofNat 5)), .inr (1, (.ofNat 0), (.ofNat 39)), .inr (1, (.ofNat 0), (.ofNat 40)), .inr (1, (.ofNat 0), (.ofNat 5)), .inr (1, (.ofNat 0), (.ofNat 39)), .inr (1, (.ofNat 0), (.ofNat 40)), .inr (1, (.ofNat 0), (.ofNat 5)), .inr (1, (.ofNat 0), (.ofNat 39)), .inr (1, (.ofNat 0), (.ofNat 40)), .inr (1, (.ofNat 0), (.ofNat 5)), .inr (1, (.ofNat 0), (.ofNat 39)), .inr (1, (.ofNat 0), (.ofNat 40)), .inr (1, (.ofNat 0), (.ofNat 5)), .inr (1, (.ofNat 0), (.ofNat 39)), .inr (1, (.ofNat 0), (.ofNat 40)), .inr (1, (.ofNat 0), (.ofNat 5)), .inr (1, (.ofNat 0), (.ofNat 39)), .inr (1, (.ofNat 0), (.ofNat 40)), .inr (1, (.ofNat 0), (.ofNat 5)), .inr (1, (.ofNat 0), (.ofNat 39)), .inr (1, (.ofNat 0), (.ofNat 40)), .inr (78, (.negSucc 2147483647), (.ofNat 2147483647)), .inr (1, (.ofNat 0), (.ofNat 5)), .inr (4, (.negSucc 2147483647), (.ofNat 2147483647)), .inr (1, (.ofNat 0), (.ofNat 5)), .inr (4, (.negSucc 2147483647), (.ofNat 2147483647)), .inr (1, (.ofNat 0), (.ofNat 5)), .inr (4, (.negSucc 2147483647), (.ofNat 2147483647)), .inr (1, (.ofNat 0), (.ofNat 5)), .inr (4, (.negSucc 2147483647), (.ofNat 2147483647)), .inr (1, (.ofNat 0), (.ofNat 5)), .inr (4, (.negSucc 2147483647), (.ofNat 2147483647)), .inr (1, (.ofNat 0), (.ofNat 5)), .inr (4, (.negSucc 2147483647), (.ofNat 2147483647)), .inr (1, (.ofNat 0), (.ofNat 5)), .inr (4, (.negSucc 2147483647), (.ofNat 2147483647)), .inr (1, (.ofNat 0), (.ofNat 5)), .inr (2, (.negSucc 2147483647), (.ofNat 2147483647)), .inr (60, (.ofNat 0), (.ofNat 127)), .inr (18, (.negSucc 2147483647), (.ofNat 2147483647))])
def c148_7 : Ct := (148, 1, (36, [(0, (.ofNat 0), (.ofNat 11)), (1, (.ofNat 1), (.ofNat 20)), (2, (.negSucc 2147483647), (.ofNat 2147483647)), (3, (.ofNat 0), (.ofNat 69)), (4, (.ofNat 0), (.ofNat 69)), (5, (.ofNat 0), (.ofNat 8)), (6, (.negSucc 2147483647), (.ofNat 2147483647)), (7, (.negSucc 2147483647), (.ofNat 2147483647)), (8, (.negSucc 2147483647), (.ofNat 2147483647)), (9, (.negSucc 2147483647), (.ofNat 2147483647)), (10, (.negSucc 2147483647), (.ofNat 2147483647)), (11, (.negSucc 2147483647), (.ofNat 2147483647)), (12, (.negSucc 2147483647), (.ofNat 2147483647)), (13, (.ofNat 1), (.ofNat 4)), (14, (.ofNat 0), (.ofNat 60)), (15, (.ofNat 0), (.ofNat 8)), (16, (.ofNat 0), (.ofNat 6)), (17, (.ofNat 0), (.ofNat 8)), (18, (.ofNat 0), (.ofNat 60)), (19, (.ofNat 0), (.ofNat 60)), (20, (.ofNat 0), (.ofNat 10)), (21, (.negSucc 2147483647), (.ofNat 2147483647)), (22, (.ofNat 0), (.ofNat 1)), (23, (.ofNat 0), (.ofNat 1)), (24, (.ofNat 0), (.ofNat 1)), (25, (.ofNat 0), (.ofNat 1))], [((.ofNat 1), [(22, (.negSucc 0)), (23, (.negSucc 0)), (24, (.negSucc 0)), (25, (.negSucc 0))])], [.inr (.inl (some 0)), .inl (false, ((.ofNat 440), [])), .inl (false, ((.ofNat 6), [])), .inl (false, ((.ofNat 7), [])), .inl (false, ((.ofNat 0), [(0, (.ofNat 1))])), .inl (false, ((.ofNat 0), [(1, (.ofNat 1))])), .inl (false, ((.ofNat 0), [(2, (.ofNat 1))]))], [zc0,
    zc1,
    zc2,
    zc3,
    zc4,
    zc5,
    zc6,
    .inr (1, .inr (.inl 70)),
    .inr (1, .inr (.inl 8)),
    zc7,
    zc8,
    zc9,
    zc10,
    zc11,
    .inr (1, .inr (.inl 4))], [(1, [1], []), (2, [1], [])]),
  [((36, [], [], [.inl (false, ((.ofNat 1), [(19, (.ofNat 1))]))], [zc0,
    zc13,
    zc2,
    zc3,
    zc4,
    zc5,
    zc6,
    .inr (1, .inr (.inl 70)),
    .inr (1, .inr (.inl 8)),
    zc7,
    zc8,
    zc9,
    zc10,
    zc11,
    .inr (1, .inr (.inl 4))], [(1, [1], []), (2, [1], [])]), 0, 0)])
def c148_7_e : List Ct := []
def c148_7_pts : List PE := []
set_option maxRecDepth 100000 in
theorem c148_7_k : enCt c148_7 c148_7_e (c148_7_pts ++ []) (some (19, 0, 61)) ((hOr (hOpen 12 307 1) (hClose 53 307 1)), noM, 0, 9007199254745088) 3000 = true := by decide +kernel
theorem c148_7_v : ValidC PPk c148_7 := ct_ok fpk ⟨(hOr_ok (hOpen_ok 12 307 1) (hClose_ok 53 307 1)), noM_ok⟩ (d := 0) (ext := []) (pts := c148_7_pts) (env := c148_7_e) rfl (fun _ h => (by cases h)) ext_nil (fun q h => (by cases h; exact Nat.le_of_ble_eq_true rfl)) c148_7_k (fun _ h => (by cases h))
def c148_8 : Ct := (148, 1, (36, [(0, (.ofNat 0), (.ofNat 11)), (1, (.ofNat 0), (.ofNat 1)), (2, (.negSucc 2147483647), (.ofNat 2147483647)), (3, (.ofNat 0), (.ofNat 69)), (4, (.ofNat 0), (.ofNat 69)), (5, (.ofNat 0), (.ofNat 8)), (6, (.negSucc 2147483647), (.ofNat 2147483647)), (7, (.negSucc 2147483647), (.ofNat 2147483647)), (8, (.negSucc 2147483647), (.ofNat 2147483647)), (9, (.negSucc 2147483647), (.ofNat 2147483647)), (10, (.negSucc 2147483647), (.ofNat 2147483647)), (11, (.negSucc 2147483647), (.ofNat 2147483647)), (12, (.negSucc 2147483647), (.ofNat 2147483647)), (13, (.ofNat 1), (.ofNat 4)), (14, (.ofNat 0), (.ofNat 60)), (15, (.ofNat 0), (.ofNat 8)), (16, (.ofNat 0), (.ofNat 6)), (17, (.ofNat 0), (.ofNat 8)), (18, (.ofNat 0), (.ofNat 60)), (19, (.ofNat 0), (.ofNat 60)), (20, (.ofNat 0), (.ofNat 10)), (21, (.negSucc 2147483647), (.ofNat 2147483647)), (22, (.ofNat 0), (.ofNat 1)), (23, (.ofNat 0), (.ofNat 1)), (24, (.ofNat 0), (.ofNat 1)), (25, (.ofNat 0), (.ofNat 1))], [((.ofNat 1), [(22, (.negSucc 0)), (23, (.negSucc 0)), (24, (.negSucc 0)), (25, (.negSucc 0))])], [.inr (.inl (some 0)), .inl (false, ((.ofNat 440), [])), .inl (false, ((.ofNat 6), [])), .inl (false, ((.ofNat 8), [])), .inl (false, ((.ofNat 0), [(0, (.ofNat 1))])), .inl (false, ((.ofNat 0), [(1, (.ofNat 1))])), .inl (false, ((.ofNat 0), [(2, (.ofNat 1))]))], [zc0,
    zc1,
    zc2,
    zc3,
    zc4,
    zc5,
    zc6,
    .inr (1, .inr (.inl 70)),
    .inr (1, .inr (.inl 8)),
    zc7,
    zc8,
    zc9,
    zc10,
    zc11,
    .inr (1, .inr (.inl 4))], [(1, [1], []), (2, [1], [])]),
  [((36, [], [], [.inl (false, ((.ofNat 1), [(19, (.ofNat 1))]))], [zc0,
    zc13,
    zc2,
    zc3,
    zc4,
    zc5,
    zc6,
    .inr (1, .inr (.inl 70)),
    .inr (1, .inr (.inl 8)),
    zc7,
    zc8,
    zc9,
    zc10,
    zc11,
    .inr (1, .inr (.inl 4))], [(1, [1], []), (2, [1], [])]), 0, 0)])
def c148_8_e : List Ct := []
def c148_8_pts : List PE := []
set_option maxRecDepth 100000 in
theorem c148_8_k : enCt c148_8 c148_8_e (c148_8_pts ++ []) (some (19, 0, 61)) ((hOr (hOpen 12 307 1) (hClose 53 307 1)), noM, 0, 9007199254745088) 3000 = true := by decide +kernel
theorem c148_8_v : ValidC PPk c148_8 := ct_ok fpk ⟨(hOr_ok (hOpen_ok 12 307 1) (hClose_ok 53 307 1)), noM_ok⟩ (d := 0) (ext := []) (pts := c148_8_pts) (env := c148_8_e) rfl (fun _ h => (by cases h)) ext_nil (fun q h => (by cases h; exact Nat.le_of_ble_eq_true rfl)) c148_8_k (fun _ h => (by cases h))
def c148_9 : Ct := (148, 1, (36, [(0, (.ofNat 0), (.ofNat 11)), (1, (.ofNat 0), (.ofNat 7)), (2, (.negSucc 2147483647), (.ofNat 2147483647)), (3, (.ofNat 0), (.ofNat 69)), (4, (.ofNat 0), (.ofNat 69)), (5, (.ofNat 0), (.ofNat 8)), (6, (.negSucc 2147483647), (.ofNat 2147483647)), (7, (.negSucc 2147483647), (.ofNat 2147483647)), (8, (.negSucc 2147483647), (.ofNat 2147483647)), (9, (.negSucc 2147483647), (.ofNat 2147483647)), (10, (.negSucc 2147483647), (.ofNat 2147483647)), (11, (.negSucc 2147483647), (.ofNat 2147483647)), (12, (.negSucc 2147483647), (.ofNat 2147483647)), (13, (.ofNat 1), (.ofNat 4)), (14, (.ofNat 0), (.ofNat 60)), (15, (.ofNat 0), (.ofNat 8)), (16, (.ofNat 0), (.ofNat 6)), (17, (.ofNat 0), (.ofNat 8)), (18, (.ofNat 0), (.ofNat 60)), (19, (.ofNat 0), (.ofNat 60)), (20, (.ofNat 0), (.ofNat 10)), (21, (.negSucc 2147483647), (.ofNat 2147483647)), (22, (.ofNat 0), (.ofNat 1)), (23, (.ofNat 0), (.ofNat 1)), (24, (.ofNat 0), (.ofNat 1)), (25, (.ofNat 0), (.ofNat 1))], [((.ofNat 1), [(22, (.negSucc 0)), (23, (.negSucc 0)), (24, (.negSucc 0)), (25, (.negSucc 0))])], [.inr (.inl (some 0)), .inl (false, ((.ofNat 440), [])), .inl (false, ((.ofNat 6), [])), .inl (false, ((.ofNat 9), [])), .inl (false, ((.ofNat 0), [(0, (.ofNat 1))])), .inl (false, ((.ofNat 0), [(1, (.ofNat 1))])), .inl (false, ((.ofNat 0), [(2, (.ofNat 1))]))], [zc0,
    zc1,
    zc2,
    zc3,
    zc4,
    zc5,
    zc6,
    .inr (1, .inr (.inl 70)),
    .inr (1, .inr (.inl 8)),
    zc7,
    zc8,
    zc9,
    zc10,
    zc11,
    .inr (1, .inr (.inl 4))], [(1, [1], []), (2, [1], [])]),
  [((36, [], [], [.inl (false, ((.ofNat 1), [(19, (.ofNat 1))]))], [zc0,
    zc13,
    zc2,
    zc3,
    zc4,
    zc5,
    zc6,
    .inr (1, .inr (.inl 70)),
    .inr (1, .inr (.inl 8)),
    zc7,
    zc8,
    zc9,
    zc10,
    zc11,
    .inr (1, .inr (.inl 4))], [(1, [1], []), (2, [1], [])]), 0, 0)])
def c148_9_e : List Ct := []
def c148_9_pts : List PE := []
set_option maxRecDepth 100000 in
theorem c148_9_k : enCt c148_9 c148_9_e (c148_9_pts ++ []) (some (19, 0, 61)) ((hOr (hOpen 12 307 1) (hClose 53 307 1)), noM, 0, 9007199254745088) 3000 = true := by decide +kernel
theorem c148_9_v : ValidC PPk c148_9 := ct_ok fpk ⟨(hOr_ok (hOpen_ok 12 307 1) (hClose_ok 53 307 1)), noM_ok⟩ (d := 0) (ext := []) (pts := c148_9_pts) (env := c148_9_e) rfl (fun _ h => (by cases h)) ext_nil (fun q h => (by cases h; exact Nat.le_of_ble_eq_true rfl)) c148_9_k (fun _ h => (by cases h))
def c148_10 : Ct := (148, 1, (36, [(0, (.ofNat 0), (.ofNat 11)), (1, (.ofNat 1), (.ofNat 20)), (2, (.negSucc 2147483647), (.ofNat 2147483647)), (3, (.ofNat 0), (.ofNat 69)), (4, (.ofNat 0), (.ofNat 69)), (5, (.ofNat 0), (.ofNat 8)), (6, (.negSucc 2147483647), (.ofNat 2147483647)), (7, (.negSucc 2147483647), (.ofNat 2147483647)), (8, (.negSucc 2147483647), (.ofNat 2147483647)), (9, (.negSucc 2147483647), (.ofNat 2147483647)), (10, (.negSucc 2147483647), (.ofNat 2147483647)), (11, (.negSucc 2147483647), (.ofNat 2147483647)), (12, (.negSucc 2147483647), (.ofNat 2147483647)), (13, (.ofNat 1), (.ofNat 4)), (14, (.ofNat 0), (.ofNat 60)), (15, (.ofNat 0), (.ofNat 8)), (16, (.ofNat 0), (.ofNat 6)), (17, (.ofNat 0), (.ofNat 8)), (18, (.ofNat 0), (.ofNat 60)), (19, (.ofNat 0), (.ofNat 60)), (20, (.ofNat 0), (.ofNat 10)), (21, (.negSucc 2147483647), (.ofNat 2147483647)), (22, (.ofNat 0), (.ofNat 1)), (23, (.ofNat 0), (.ofNat 1)), (24, (.ofNat 0), (.ofNat 1)), (25, (.ofNat 0), (.ofNat 1))], [((.ofNat 1), [(22, (.negSucc 0)), (23, (.negSucc 0)), (24, (.negSucc 0)), (25, (.negSucc 0))])], [.inr (.inl (some 0)), .inl (false, ((.ofNat 440), [])), .inl (false, ((.ofNat 6), [])), .inl (false, ((.ofNat 10), [])), .inl (false, ((.ofNat 0), [(0, (.ofNat 1))])), .inl (false, ((.ofNat 0), [(1, (.ofNat 1))])), .inl (false, ((.ofNat 0), [(2, (.ofNat 1))]))], [zc0,
    zc1,
    zc2,
    zc3,
    zc4,
    zc5,
    zc6,
    .inr (1, .inr (.inl 70)),
    .inr (1, .inr (.inl 8)),
    zc7,
    zc8,
    zc9,
    zc10,
    zc11,
    .inr (1, .inr (.inl 4))], [(1, [1], []), (2, [1], [])]),
  [((36, [], [], [.inl (false, ((.ofNat 1), [(19, (.ofNat 1))]))], [zc0,
    zc13,
    zc2,
    zc3,
    zc4,
    zc5,
    zc6,
    .inr (1, .inr (.inl 70)),
    .inr (1, .inr (.inl 8)),
    zc7,
    zc8,
    zc9,
    zc10,
    zc11,
    .inr (1, .inr (.inl 4))], [(1, [1], []), (2, [1], [])]), 0, 0)])
def c148_10_e : List Ct := []
def c148_10_pts : List PE := []
set_option maxRecDepth 100000 in
theorem c148_10_k : enCt c148_10 c148_10_e (c148_10_pts ++ []) (some (19, 0, 61)) ((hOr (hOpen 12 307 1) (hClose 53 307 1)), noM, 0, 9007199254745088) 3000 = true := by decide +kernel
theorem c148_10_v : ValidC PPk c148_10 := ct_ok fpk ⟨(hOr_ok (hOpen_ok 12 307 1) (hClose_ok 53 307 1)), noM_ok⟩ (d := 0) (ext := []) (pts := c148_10_pts) (env := c148_10_e) rfl (fun _ h => (by cases h)) ext_nil (fun q h => (by cases h; exact Nat.le_of_ble_eq_true rfl)) c148_10_k (fun _ h => (by cases h))
def zc14 : AC := .inl (12, [.inr (.inl (some 1)), .inr (.inl (some 2)), .inr (.inl (some 3)), .inl (false, ((.ofNat 0), [(4, (.ofNat 1))])), .inr (.inl (some 4)), .inr (.inl (some 5)), .inl (false, ((.ofNat 0), [(5, (.ofNat 1))])), .inr (.inl (some 6)), .inr (.inl (some 7)), .inl (false, ((.ofNat 0), [(6, (.ofNat 1))])), .inr (.inl (some 8)), .inl (false, ((.ofNat 0), [(7, (.ofNat 1))])), .inr (.inl (some 9)), .inr (.inl (some 10)), .inr (.inl (some 11)), .inr (.inl (some 12)), .inl (false, ((.ofNat 0), [(8, (.ofNat 1))])), .inl (false, ((.ofNat 0), [(9, (.ofNat 1))])), .inl (false, ((.ofNat 0), [(10, (.ofNat 1))])), .inr (.inl (some 13)), .inl (false, ((.ofNat 0), [(11, (.ofNat 1))])), .inl (false, ((.ofNat 0), [(12, (.ofNat 1))])), .inl (false, ((.ofNat 0), [(13, (.ofNat 1))])), .inr (.inl (some 14))])
def zc15 : AC := .inr (100, .inl [.inl ((.ofNat 0), [(27, (.ofNat 1))])])
def zc16 : AC := .inr (103, .inl [.inl ((.ofNat 0), [(28, (.ofNat 1))])])
def zc17 : AC := .inr (100, .inl [.inl ((.ofNat 0), [(36, (.ofNat 1))])])
def c203_0 : Ct := (203, 3, (37, [(0, (.negSucc 2147483647), (.ofNat 2147483647)), (1, (.negSucc 2147483647), (.ofNat 2147483647)), (2, (.negSucc 2147483647), (.ofNat 2147483647)), (3, (.negSucc 2147483647), (.ofNat 2147483647)), (4, (.ofNat 0), (.ofNat 69)), (5, (.ofNat 0), (.ofNat 69)), (6, (.ofNat 0), (.ofNat 8)), (7, (.negSucc 2147483647), (.ofNat 2147483647)), (8, (.negSucc 2147483647), (.ofNat 2147483647)), (9, (.negSucc 2147483647), (.ofNat 2147483647)), (10, (.negSucc 2147483647), (.ofNat 2147483647)), (11, (.negSucc 2147483647), (.ofNat 2147483647)), (12, (.negSucc 2147483647), (.ofNat 2147483647)), (13, (.negSucc 2147483647), (.ofNat 2147483647)), (14, (.ofNat 1), (.ofNat 4)), (15, (.ofNat 0), (.ofNat 60)), (16, (.ofNat 0), (.ofNat 8)), (17, (.ofNat 0), (.ofNat 6)), (18, (.ofNat 0), (.ofNat 8)), (19, (.ofNat 0), (.ofNat 60)), (20, (.ofNat 0), (.ofNat 60)), (21, (.ofNat 0), (.ofNat 10)), (22, (.negSucc 2147483647), (.ofNat 2147483647)), (23, (.ofNat 0), (.ofNat 1)), (24, (.ofNat 0), (.ofNat 1)), (25, (.ofNat 0), (.ofNat 1)), (26, (.ofNat 0), (.ofNat 1))], [((.ofNat 1), [(23, (.negSucc 0)), (24, (.negSucc 0)), (25, (.negSucc 0)), (26, (.negSucc 0))])], [.inr (.inl (some 0)), .inl (false, ((.ofNat 0), [(0, (.ofNat 1))])), .inl (false, ((.ofNat 0), [(1, (.ofNat 1))])), .inl (false, ((.ofNat 0), [(2, (.ofNat 1))])), .inl (false, ((.ofNat 0), [(3, (.ofNat 1))]))], [zc14,
    .inr (0, .inl [.inl ((.ofNat 0), [(14, (.ofNat 1))]), .inl ((.ofNat 0), [(15, (.ofNat 1))]), .inl ((.ofNat 0), [(16, (.ofNat 1))]), .inl ((.ofNat 0), [(17, (.ofNat 1))]), .inl ((.ofNat 0), [(18, (.ofNat 1))]), .inl ((.ofNat 0), [(19, (.ofNat 1))]), .inl ((.ofNat 0), [(20, (.ofNat 1))]), .inl ((.ofNat 0), [(21, (.ofNat 1))]), .inr (5, (.negSucc 2147483647), (.ofNat 2147483647)), .inr (1, (.ofNat 0), (.ofNat 3)), .inl ((.ofNat 0), [(22, (.ofNat 1))]), .inr (2, (.negSucc 2147483647), (.ofNat 2147483647)), .inr (1, (.ofNat 1), (.ofNat 1000)), .inr (1, (.ofNat 0), (.ofNat 50)), .inr (23, (.negSucc 2147483647), (.ofNat 2147483647)), .inl ((.ofNat 0), [(23, (.ofNat 1))]), .inr (39, (.negSucc 2147483647), (.ofNat 2147483647)), .inl ((.ofNat 0), [(24, (.ofNat 1))]), .inr (39, (.negSucc 2147483647), (.ofNat 2147483647)), .inl ((.ofNat 0), [(25, (.ofNat 1))]), .inr (39, (.negSucc 2147483647), (.ofNat 2147483647)), .inl ((.ofNat 0), [(26, (.ofNat 1))]), .inr (517, (.negSucc 2147483647), (.ofNat 2147483647)), .inr (12, (.ofNat 0), (.ofNat 60)), .inr (1, (.ofNat 0), (.ofNat 5)), .inr (1, (.ofNat 0), (.ofNat 39)), .inr (1, (.ofNat 0), (.ofNat 40)), .inr (1, (.ofNat 0), (.ofNat 5)), .inr (1, (.ofNat 0), (.ofNat 39)), .inr (1, (.ofNat 0), (.ofNat 40)), .inr (1, (.ofNat 0), (.ofNat 5)), .inr (1, (.ofNat 0), (.ofNat 39)), .inr (1, (.ofNat 0), (.ofNat 40)), .inr (1, (.ofNat 0), (.ofNat 5)), .inr (1, (.ofNat 0), (.ofNat 39)), .inr (1, (.ofNat 0), (.ofNat 40)), .inr (1, (.ofNat 0), (.ofNat 5)), .inr (1, (.ofNat 0), (.ofNat 39)), .inr (1, (.ofNat 0), (.ofNat 40)), .inr (1, (.ofNat 0), (.ofNat 5)), .inr (1, (.ofNat 0), (.ofNat 39)), .inr (1, (.ofNat 0), (.ofNat 40)), .inr (1, (.ofNat 0), (.ofNat 5)), .inr (1, (.ofNat 0), (.ofNat 39)), .inr (1, (.ofNat 0), (.ofNat 40)), .inr (1, (.ofNat 0), (.ofNat 5)), .inr (1, (.ofNat 0), (.ofNat 39)), .inr (1, (.ofNat 0), (.ofNat 40)), .inr (76, (.negSucc 2147483647), (.ofNat 2147483647)), .inr (2, (.negSucc 2147483647), (.ofNat 2147483647)), .inr (1, (.ofNat 0), (.ofNat 5)), .inr (2, (.negSucc 2147483647), (.ofNat 2147483647)), .inr (2, (.negSucc 2147483647), (.ofNat 2147483647)), .inr (1, (.ofNat 0), (.ofNat 5)), .inr (2, (.negSucc 2147483647), (.ofNat 2147483647)), .inr (2, (.negSucc 2147483647), (.ofNat 2147483647)), .inr (1, (.ofNat 0), (.ofNat 5)), .inr (2, (.negSucc 2147483647), (.ofNat 2147483647)), .inr (2, (.negSucc 2147483647), (.ofNat 2147483647)), .inr (1, (.ofNat 0), (.ofNat 5)), .inr (2, (.negSucc 2147483647), (.ofNat 2147483647)), .inr (2, (.negSucc 2147483647), (.ofNat 2147483647)), .inr (1, (.ofNat 0), (.ofNat 5)), .inr (2, (.negSucc 2147483647), (.ofNat 2147483647)), .inr (2, (.negSucc 2147483647), (.ofNat 2147483647)), .inr (1, (.ofNat 0), (.ofNat 5)), .inr (2, (.negSucc 2147483647), (.ofNat 2147483647)), .inr (2, (.negSucc 2147483647), (.ofNat 2147483647)), .inr (1, (.ofNat 0), (.ofNat 5)), .inr (2, (.negSucc 2147483647), (.ofNat 2147483647)), .inr (2, (.negSucc 2147483647), (.ofNat 2147483647)), .inr (1, (.ofNat 0), (.ofNat 5)), .inr (2, (.negSucc 2147483647), (.ofNat 2147483647)), .inr (60, (.ofNat 0), (.ofNat 127)), .inr (18, (.negSucc 2147483647), (.ofNat 2147483647))]),
    zc15,
    zc16,
    zc5,
    zc6,
    zc7,
    .inr (1, .inr (.inl 70)),
    .inr (1, .inr (.inl 8)),
    zc8,
    zc9,
    zc10,
    zc11,
    zc17,
    .inr (1, .inr (.inl 4))], [(1, [1], []), (2, [1], [])]),
  [((39, [(37, (.negSucc 3), (.ofNat 60)), (38, (.ofNat 0), (.ofNat 60))], [], [.inl (false, ((.ofNat 0), [(37, (.ofNat 1))]))], [zc14,
    .inr (0, .inl [.inl ((.ofNat 0), [(14, (.ofNat 1))]), .inl ((.ofNat 0), [(15, (.ofNat 1))]), .inl ((.ofNat 0), [(16, (.ofNat 1))]), .inl ((.ofNat 0), [(17, (.ofNat 1))]), .inl ((.ofNat 0), [(18, (.ofNat 1))]), .inl ((.ofNat 0), [(19, (.ofNat 1))]), .inl ((.ofNat 0), [(38, (.ofNat 1))]), .inl ((.ofNat 0), [(21, (.ofNat 1))]), .inr (5, (.negSucc 2147483647), (.ofNat 2147483647)), .inr (1, (.ofNat 0), (.ofNat 3)), .inl ((.ofNat 0), [(22, (.ofNat 1))]), .inr (2, (.negSucc 2147483647), (.ofNat 2147483647)), .inr (1, (.ofNat 1), (.ofNat 1000)), .inr (1, (.ofNat 0), (.ofNat 50)), .inr (23, (.negSucc 2147483647), (.ofNat 2147483647)), .inl ((.ofNat 0), [(23, (.ofNat 1))]), .inr (39, (.negSucc 2147483647), (.ofNat 2147483647)), .inl ((.ofNat 0), [(24, (.ofNat 1))]), .inr (39, (.negSucc 2147483647), (.ofNat 2147483647)), .inl ((.ofNat 0), [(25, (.ofNat 1))]), .inr (39, (.negSucc 2147483647), (.ofNat 2147483647)), .inl ((.ofNat 0), [(26, (.ofNat 1))]), .inr (517, (.negSucc 2147483647), (.ofNat 2147483647)), .inr (2, (.ofNat 0), (.ofNat 60)), .inr (2, (.negSucc 2147483647), (.ofNat 2147483647)), .inr (8, (.ofNat 0), (.ofNat 60)), .inr (1, (.ofNat 0), (.ofNat 5)), .inr (1, (.ofNat 0), (.ofNat 39)), .inr (1, (.ofNat 0), (.ofNat 40)), .inr (1, (.ofNat 0), (.ofNat 5)), .inr (1, (.ofNat 0), (.ofNat 39)), .inr (1, (.ofNat 0), (.ofNat 40)), .inr (1, (.ofNat 0), (.ofNat 5)), .inr (1, (.ofNat 0), (.ofNat 39)), .inr (1, (.ofNat 0), (.ofNat 40)), .inr (1, (.ofNat 0), (.ofNat 5)), .inr (1, (.ofNat 0), (.ofNat 39)), .inr (1, (.ofNat 0), (.ofNat 40)), .inr (1, (.ofNat 0), (.ofNat 5)), .inr (1, (.ofNat 0), (.ofNat 39)), .inr (1, (.ofNat 0), (.ofNat 40)), .inr (1, (.ofNat 0), (.ofNat 5)), .inr (1, (.ofNat 0), (.ofNat 39)), .inr (1, (.ofNat 0), (.ofNat 40)), .inr (1, (.ofNat 0), (.ofNat 5)), .inr (1, (.ofNat 0), (.ofNat 39)), .inr (1, (.ofNat 0), (.ofNat 40)), .inr (1, (.ofNat 0), (.ofNat 5)), .inr (1, (.ofNat 0), (.ofNat 39)), .inr (1, (.ofNat 0), (.ofNat 40)), .inr (78, (.negSucc 2147483647), (.ofNat 2147483647)), .inr (1, (.ofNat 0), (.ofNat 5)), .inr (4, (.negSucc 2147483647), (.ofNat 2147483647)), .inr (1, (.ofNat 0), (.ofNat 5)), .inr (4, (.negSucc 2147483647), (.ofNat 2147483647)), .inr (1, (.ofNat 0), (.ofNat 5)), .inr (4, (.negSucc 2147483647), (.ofNat 2147483647)), .inr (1, (.ofNat 0), (.ofNat 5)), .inr (4, (.negSucc 2147483647), (.ofNat 2147483647)), .inr (1, (.ofNat 0), (.ofNat 5)), .inr (4, (.negSucc 2147483647), (.ofNat 2147483647)), .inr (1, (.ofNat 0), (.ofNat 5)), .inr (4, (.negSucc 2147483647), (.ofNat 2147483647)), .inr (1, (.ofNat 0), (.ofNat 5)), .inr (4, (.negSucc 2147483647), (.ofNat 2147483647)), .inr (1, (.ofNat 0), (.ofNat 5)), .inr (2, (.negSucc 2147483647), (.ofNat 2147483647)), .inr (60, (.ofNat 0), (.ofNat 127)), .inr (18, (.negSucc 2147483647), (.ofNat 2147483647))]),
    zc15,
    zc16,
    zc5,
    zc6,
    zc7,
    .inr (1, .inr (.inl 70)),
    .inr (1, .inr (.inl 8)),
    zc8,
    zc9,
    zc10,
    zc11,
    zc17,
    .inr (1, .inr (.inl 4))], [(1, [1], []), (2, [1], [])]), 0, 0)])
def c203_0_e : List Ct := [c147_0, c148_0, c148_1, c148_2, c148_3, c148_4, c148_5, c148_6, c148_7, c148_8, c148_9, c148_10]
def c203_0_pts : List PE := []
set_option maxRecDepth 100000 in
theorem c203_0_k : enCt c203_0 c203_0_e (c203_0_pts ++ []) (none) noH 3000 = true := by decide +kernel
theorem c203_0_v : ValidC PPk c203_0 := ct_ok fpk noH_ok (d := 2) (ext := []) (pts := c203_0_pts) (env := c203_0_e) rfl (List.forall_mem_cons.mpr ⟨⟨c147_0_v, Nat.le_of_ble_eq_true rfl⟩, List.forall_mem_cons.mpr ⟨⟨c148_0_v, Nat.le_of_ble_eq_true rfl⟩, List.forall_mem_cons.mpr ⟨⟨c148_1_v, Nat.le_of_ble_eq_true rfl⟩, List.forall_mem_cons.mpr ⟨⟨c148_2_v, Nat.le_of_ble_eq_true rfl⟩, List.forall_mem_cons.mpr ⟨⟨c148_3_v, Nat.le_of_ble_eq_true rfl⟩, List.forall_mem_cons.mpr ⟨⟨c148_4_v, Nat.le_of_ble_eq_true rfl⟩, List.forall_mem_cons.mpr ⟨⟨c148_5_v, Nat.le_of_ble_eq_true rfl⟩, List.forall_mem_cons.mpr ⟨⟨c148_6_v, Nat.le_of_ble_eq_true rfl⟩, List.forall_mem_cons.mpr ⟨⟨c148_7_v, Nat.le_of_ble_eq_true rfl⟩, List.forall_mem_cons.mpr ⟨⟨c148_8_v, Nat.le_of_ble_eq_true rfl⟩, List.forall_mem_cons.mpr ⟨⟨c148_9_v, Nat.le_of_ble_eq_true rfl⟩, List.forall_mem_cons.mpr ⟨⟨c148_10_v, Nat.le_of_ble_eq_true rfl⟩, fun _ h => (by cases h)⟩⟩⟩⟩⟩⟩⟩⟩⟩⟩⟩⟩) ext_nil (fun q h => (by cases h)) c203_0_k (fun _ h => (by cases h))
