/-! ===== contracts, written by wip/vse2/emitgen.py ===== -/
noncomputable def c147_0 : Ct := (147, 2, (4, [(0, (.negSucc 2147483647), (.ofNat 2147483647)), (1, (.negSucc 2147483647), (.ofNat 2147483647)), (2, (.negSucc 2147483647), (.ofNat 2147483647)), (3, (.negSucc 2147483647), (.ofNat 2147483647))], [], [.inl (false, ((.ofNat 0), [(0, (.ofNat 1))])), .inl (false, ((.ofNat 0), [(1, (.ofNat 1))])), .inl (false, ((.ofNat 0), [(2, (.ofNat 1))])), .inl (false, ((.ofNat 0), [(3, (.ofNat 1))]))], [], []),
  [((4, [(0, (.negSucc 2147483647), (.negSucc 0))], [], [.inl (false, ((.ofNat 0), []))], [], []), 0, 0),
   ((4, [(0, (.ofNat 11), (.ofNat 2147483647))], [], [.inl (false, ((.ofNat 0), []))], [], []), 0, 0),
   ((4, [(0, (.ofNat 0), (.ofNat 10)), (1, (.negSucc 2147483647), (.negSucc 0))], [], [.inl (false, ((.ofNat 0), []))], [], []), 0, 0),
   ((4, [(0, (.ofNat 0), (.ofNat 10)), (1, (.ofNat 12), (.ofNat 2147483647))], [], [.inl (false, ((.ofNat 0), []))], [], []), 0, 0),
   ((4, [(0, (.ofNat 0), (.ofNat 0)), (1, (.ofNat 0), (.ofNat 11))], [], [.inl (false, ((.ofNat 1), []))], [], []), 0, 0),
   ((4, [(0, (.ofNat 1), (.ofNat 1)), (1, (.ofNat 0), (.ofNat 11)), (2, (.negSucc 2147483647), (.negSucc 0))], [], [.inl (false, ((.ofNat 0), []))], [], []), 0, 0),
   ((4, [(0, (.ofNat 1), (.ofNat 1)), (1, (.ofNat 0), (.ofNat 11)), (2, (.ofNat 12), (.ofNat 2147483647))], [], [.inl (false, ((.ofNat 0), []))], [], []), 0, 0),
   ((4, [(0, (.ofNat 1), (.ofNat 1)), (1, (.ofNat 0), (.ofNat 11)), (2, (.ofNat 0), (.ofNat 11)), (3, (.negSucc 2147483647), (.negSucc 0))], [], [.inl (false, ((.ofNat 0), []))], [], []), 0, 0),
   ((4, [(0, (.ofNat 1), (.ofNat 1)), (1, (.ofNat 0), (.ofNat 11)), (2, (.ofNat 0), (.ofNat 11)), (3, (.ofNat 12), (.ofNat 2147483647))], [], [.inl (false, ((.ofNat 0), []))], [], []), 0, 0),
   ((4, [(0, (.ofNat 1), (.ofNat 1)), (1, (.ofNat 0), (.ofNat 11)), (2, (.ofNat 0), (.ofNat 11)), (3, (.ofNat 0), (.ofNat 11))], [], [.inl (false, ((.ofNat 1), []))], [], []), 0, 0),
   ((4, [(0, (.ofNat 2), (.ofNat 2)), (1, (.ofNat 0), (.ofNat 11)), (2, (.negSucc 2147483647), (.negSucc 0))], [], [.inl (false, ((.ofNat 0), []))], [], []), 0, 0),
   ((4, [(0, (.ofNat 2), (.ofNat 2)), (1, (.ofNat 0), (.ofNat 11)), (2, (.ofNat 12), (.ofNat 2147483647))], [], [.inl (false, ((.ofNat 0), []))], [], []), 0, 0),
   ((4, [(0, (.ofNat 2), (.ofNat 2)), (1, (.ofNat 0), (.ofNat 11)), (2, (.ofNat 0), (.ofNat 11)), (3, (.negSucc 2147483647), (.negSucc 0))], [], [.inl (false, ((.ofNat 0), []))], [], []), 0, 0),
   ((4, [(0, (.ofNat 2), (.ofNat 2)), (1, (.ofNat 0), (.ofNat 11)), (2, (.ofNat 0), (.ofNat 11)), (3, (.ofNat 12), (.ofNat 2147483647))], [], [.inl (false, ((.ofNat 0), []))], [], []), 0, 0),
   ((4, [(0, (.ofNat 2), (.ofNat 2)), (1, (.ofNat 0), (.ofNat 11)), (2, (.ofNat 0), (.ofNat 11)), (3, (.ofNat 0), (.ofNat 11))], [], [.inl (false, ((.ofNat 1), []))], [], []), 0, 0),
   ((4, [(0, (.ofNat 3), (.ofNat 3)), (1, (.ofNat 0), (.ofNat 11)), (2, (.negSucc 2147483647), (.negSucc 0))], [], [.inl (false, ((.ofNat 0), []))], [], []), 0, 0),
   ((4, [(0, (.ofNat 3), (.ofNat 3)), (1, (.ofNat 0), (.ofNat 11)), (2, (.ofNat 12), (.ofNat 2147483647))], [], [.inl (false, ((.ofNat 0), []))], [], []), 0, 0),
   ((4, [(0, (.ofNat 3), (.ofNat 3)), (1, (.ofNat 0), (.ofNat 11)), (2, (.ofNat 0), (.ofNat 11)), (3, (.negSucc 2147483647), (.negSucc 0))], [], [.inl (false, ((.ofNat 0), []))], [], []), 0, 0),
   ((4, [(0, (.ofNat 3), (.ofNat 3)), (1, (.ofNat 0), (.ofNat 11)), (2, (.ofNat 0), (.ofNat 11)), (3, (.ofNat 12), (.ofNat 2147483647))], [], [.inl (false, ((.ofNat 0), []))], [], []), 0, 0),
   ((4, [(0, (.ofNat 3), (.ofNat 3)), (1, (.ofNat 0), (.ofNat 11)), (2, (.ofNat 0), (.ofNat 11)), (3, (.ofNat 0), (.ofNat 11))], [], [.inl (false, ((.ofNat 1), []))], [], []), 0, 0),
   ((4, [(0, (.ofNat 4), (.ofNat 4)), (1, (.ofNat 0), (.ofNat 11)), (2, (.negSucc 2147483647), (.negSucc 0))], [], [.inl (false, ((.ofNat 0), []))], [], []), 0, 0),
   ((4, [(0, (.ofNat 4), (.ofNat 4)), (1, (.ofNat 0), (.ofNat 11)), (2, (.ofNat 12), (.ofNat 2147483647))], [], [.inl (false, ((.ofNat 0), []))], [], []), 0, 0),
   ((4, [(0, (.ofNat 4), (.ofNat 4)), (1, (.ofNat 0), (.ofNat 11)), (2, (.ofNat 0), (.ofNat 11)), (3, (.negSucc 2147483647), (.negSucc 0))], [], [.inl (false, ((.ofNat 0), []))], [], []), 0, 0),
   ((4, [(0, (.ofNat 4), (.ofNat 4)), (1, (.ofNat 0), (.ofNat 11)), (2, (.ofNat 0), (.ofNat 11)), (3, (.ofNat 12), (.ofNat 2147483647))], [], [.inl (false, ((.ofNat 0), []))], [], []), 0, 0),
   ((4, [(0, (.ofNat 4), (.ofNat 4)), (1, (.ofNat 0), (.ofNat 11)), (2, (.ofNat 0), (.ofNat 11)), (3, (.ofNat 0), (.ofNat 11))], [], [.inl (false, ((.ofNat 1), []))], [], []), 0, 0),
   ((4, [(0, (.ofNat 5), (.ofNat 5)), (1, (.ofNat 0), (.ofNat 11)), (2, (.negSucc 2147483647), (.negSucc 0))], [], [.inl (false, ((.ofNat 0), []))], [], []), 0, 0),
   ((4, [(0, (.ofNat 5), (.ofNat 5)), (1, (.ofNat 0), (.ofNat 11)), (2, (.ofNat 12), (.ofNat 2147483647))], [], [.inl (false, ((.ofNat 0), []))], [], []), 0, 0),
   ((4, [(0, (.ofNat 5), (.ofNat 5)), (1, (.ofNat 0), (.ofNat 11)), (2, (.ofNat 0), (.ofNat 11)), (3, (.negSucc 2147483647), (.negSucc 0))], [], [.inl (false, ((.ofNat 0), []))], [], []), 0, 0),
   ((4, [(0, (.ofNat 5), (.ofNat 5)), (1, (.ofNat 0), (.ofNat 11)), (2, (.ofNat 0), (.ofNat 11)), (3, (.ofNat 12), (.ofNat 2147483647))], [], [.inl (false, ((.ofNat 0), []))], [], []), 0, 0),
   ((4, [(0, (.ofNat 5), (.ofNat 5)), (1, (.ofNat 0), (.ofNat 11)), (2, (.ofNat 0), (.ofNat 11)), (3, (.ofNat 0), (.ofNat 11))], [], [.inl (false, ((.ofNat 1), []))], [], []), 0, 0),
   ((4, [(0, (.ofNat 6), (.ofNat 6)), (1, (.ofNat 0), (.ofNat 11)), (2, (.negSucc 2147483647), (.negSucc 0))], [], [.inl (false, ((.ofNat 0), []))], [], []), 0, 0),
   ((4, [(0, (.ofNat 6), (.ofNat 6)), (1, (.ofNat 0), (.ofNat 11)), (2, (.ofNat 12), (.ofNat 2147483647))], [], [.inl (false, ((.ofNat 0), []))], [], []), 0, 0),
   ((4, [(0, (.ofNat 6), (.ofNat 6)), (1, (.ofNat 0), (.ofNat 11)), (2, (.ofNat 0), (.ofNat 11)), (3, (.negSucc 2147483647), (.negSucc 0))], [], [.inl (false, ((.ofNat 0), []))], [], []), 0, 0),
   ((4, [(0, (.ofNat 6), (.ofNat 6)), (1, (.ofNat 0), (.ofNat 11)), (2, (.ofNat 0), (.ofNat 11)), (3, (.ofNat 12), (.ofNat 2147483647))], [], [.inl (false, ((.ofNat 0), []))], [], []), 0, 0),
   ((4, [(0, (.ofNat 6), (.ofNat 6)), (1, (.ofNat 0), (.ofNat 11)), (2, (.ofNat 0), (.ofNat 11)), (3, (.ofNat 0), (.ofNat 11))], [], [.inl (false, ((.ofNat 1), []))], [], []), 0, 0),
   ((4, [(0, (.ofNat 7), (.ofNat 7)), (1, (.ofNat 0), (.ofNat 11)), (2, (.negSucc 2147483647), (.ofNat 0))], [], [.inl (false, ((.ofNat 0), []))], [], []), 0, 0),
   ((4, [(0, (.ofNat 7), (.ofNat 7)), (1, (.ofNat 0), (.ofNat 11)), (2, (.ofNat 21), (.ofNat 2147483647))], [], [.inl (false, ((.ofNat 0), []))], [], []), 0, 0),
   ((4, [(0, (.ofNat 7), (.ofNat 7)), (1, (.ofNat 0), (.ofNat 11)), (2, (.ofNat 1), (.ofNat 20))], [], [.inl (false, ((.ofNat 1), []))], [], []), 0, 0),
   ((4, [(0, (.ofNat 8), (.ofNat 8)), (1, (.ofNat 0), (.ofNat 11)), (2, (.negSucc 2147483647), (.negSucc 0))], [], [.inl (false, ((.ofNat 0), []))], [], []), 0, 0),
   ((4, [(0, (.ofNat 8), (.ofNat 8)), (1, (.ofNat 0), (.ofNat 11)), (2, (.ofNat 2), (.ofNat 2147483647))], [], [.inl (false, ((.ofNat 0), []))], [], []), 0, 0),
   ((4, [(0, (.ofNat 8), (.ofNat 8)), (1, (.ofNat 0), (.ofNat 11)), (2, (.ofNat 0), (.ofNat 1))], [], [.inl (false, ((.ofNat 1), []))], [], []), 0, 0),
   ((4, [(0, (.ofNat 9), (.ofNat 9)), (1, (.ofNat 0), (.ofNat 11)), (2, (.negSucc 2147483647), (.negSucc 0))], [], [.inl (false, ((.ofNat 0), []))], [], []), 0, 0),
   ((4, [(0, (.ofNat 9), (.ofNat 9)), (1, (.ofNat 0), (.ofNat 11)), (2, (.ofNat 8), (.ofNat 2147483647))], [], [.inl (false, ((.ofNat 0), []))], [], []), 0, 0),
   ((4, [(0, (.ofNat 9), (.ofNat 9)), (1, (.ofNat 0), (.ofNat 11)), (2, (.ofNat 0), (.ofNat 7))], [], [.inl (false, ((.ofNat 1), []))], [], []), 0, 0),
   ((4, [(0, (.ofNat 10), (.ofNat 10)), (1, (.ofNat 0), (.ofNat 11)), (2, (.negSucc 2147483647), (.ofNat 0))], [], [.inl (false, ((.ofNat 0), []))], [], []), 0, 0),
   ((4, [(0, (.ofNat 10), (.ofNat 10)), (1, (.ofNat 0), (.ofNat 11)), (2, (.ofNat 21), (.ofNat 2147483647))], [], [.inl (false, ((.ofNat 0), []))], [], []), 0, 0),
   ((4, [(0, (.ofNat 10), (.ofNat 10)), (1, (.ofNat 0), (.ofNat 11)), (2, (.ofNat 1), (.ofNat 20))], [], [.inl (false, ((.ofNat 1), []))], [], []), 0, 0)])
noncomputable def c147_0_e : List Ct := [c145_0]
noncomputable def c147_0_pts : List PE := []
set_option maxRecDepth 100000 in
theorem c147_0_k : enCtF c147_0 c147_0_e (c147_0_pts ++ []) (none) noH 3000 = true := by decide +kernel
set_option maxRecDepth 100000 in
theorem c147_0_v : ValidC PPk c147_0 := ct_ok fpk noH_ok (d := 1) (ext := []) (pts := c147_0_pts) (env := c147_0_e) rfl (List.forall_mem_cons.mpr ⟨⟨c145_0_v, Nat.le_of_ble_eq_true rfl⟩, fun _ h => (by cases h)⟩) ext_nil (fun q h => (by cases h)) (enF c147_0_k) (fun _ h => (by cases h))

def zc628 : AC := .inl (12, [.inr (.inl (some 1)), .inr (.inl (some 2)), .inr (.inl (some 3)), .inl (false, ((.ofNat 0), [(3, (.ofNat 1))])), .inr (.inl (some 4)), .inr (.inl (some 5)), .inl (false, ((.ofNat 0), [(4, (.ofNat 1))])), .inr (.inl (some 6)), .inr (.inl (some 7)), .inl (false, ((.ofNat 0), [(5, (.ofNat 1))])), .inr (.inl (some 8)), .inl (false, ((.ofNat 0), [(6, (.ofNat 1))])), .inr (.inl (some 9)), .inr (.inl (some 10)), .inr (.inl (some 11)), .inr (.inl (some 12)), .inl (false, ((.ofNat 0), [(7, (.ofNat 1))])), .inl (false, ((.ofNat 0), [(8, (.ofNat 1))])), .inl (false, ((.ofNat 0), [(9, (.ofNat 1))])), .inr (.inl (some 13)), .inl (false, ((.ofNat 0), [(10, (.ofNat 1))])), .inl (false, ((.ofNat 0), [(11, (.ofNat 1))])), .inl (false, ((.ofNat 0), [(12, (.ofNat 1))])), .inr (.inl (some 14))])
def zc629 : AC := .inr (0, .inl [.inl ((.ofNat 0), [(13, (.ofNat 1))]), .inl ((.ofNat 0), [(14, (.ofNat 1))]), .inl ((.ofNat 0), [(15, (.ofNat 1))]), .inl ((.ofNat 0), [(16, (.ofNat 1))]), .inl ((.ofNat 0), [(17, (.ofNat 1))]), .inl ((.ofNat 0), [(18, (.ofNat 1))]), .inl ((.ofNat 0), [(19, (.ofNat 1))]), .inl ((.ofNat 0), [(20, (.ofNat 1))]), .inr (5, (.negSucc 2147483647), (.ofNat 2147483647)), .inr (1, (.ofNat 0), (.ofNat 3)), .inl ((.ofNat 0), [(21, (.ofNat 1))]), .inr (2, (.negSucc 2147483647), (.ofNat 2147483647)), .inr (1, (.ofNat 1), (.ofNat 1000)), .inr (1, (.ofNat 0), (.ofNat 50)), .inr (23, (.negSucc 2147483647), (.ofNat 2147483647)), .inl ((.ofNat 0), [(22, (.ofNat 1))]), .inr (39, (.negSucc 2147483647), (.ofNat 2147483647)), .inl ((.ofNat 0), [(23, (.ofNat 1))]), .inr (39, (.negSucc 2147483647), (.ofNat 2147483647)), .inl ((.ofNat 0), [(24, (.ofNat 1))]), .inr (39, (.negSucc 2147483647), (.ofNat 2147483647)), .inl ((.ofNat 0), [(25, (.ofNat 1))]), .inr (517, (.negSucc 2147483647), (.ofNat 2147483647)), .inr (12, (.ofNat 0), (.ofNat 60)), .inr (1, (.ofNat 0), (.ofNat 5)), .inr (1, (.ofNat 0), (.ofNat 39)), .inr (1, (.ofNat 0), (.ofNat 40)), .inr (1, (.ofNat 0), (.ofNat 5)), .inr (1, (.ofNat 0), (.ofNat 39)), .inr (1, (.ofNat 0), (.ofNat 40)), .inr (1, (.ofNat 0), (.ofNat 5)), .inr (1, (.ofNat 0), (.ofNat 39)), .inr (1, (.ofNat 0), (.ofNat 40)), .inr (1, (.ofNat 0), (.ofNat 5)), .inr (1, (.ofNat 0), (.ofNat 39)), .inr (1, (.ofNat 0), (.ofNat 40)), .inr (1, (.ofNat 0), (.ofNat 5)), .inr (1, (.ofNat 0), (.ofNat 39)), .inr (1, (.ofNat 0), (.ofNat 40)), .inr (1, (.ofNat 0), (.ofNat 5)), .inr (1, (.ofNat 0), (.ofNat 39)), .inr (1, (.ofNat 0), (.ofNat 40)), .inr (1, (.ofNat 0), (.ofNat 5)), .inr (1, (.ofNat 0), (.ofNat 39)), .inr (1, (.ofNat 0), (.ofNat 40)), .inr (1, (.ofNat 0), (.ofNat 5)), .inr (1, (.ofNat 0), (.ofNat 39)), .inr (1, (.ofNat 0), (.ofNat 40)), .inr (76, (.negSucc 2147483647), (.ofNat 2147483647)), .inr (2, (.negSucc 2147483647), (.ofNat 2147483647)), .inr (1, (.ofNat 0), (.ofNat 5)), .inr (2, (.negSucc 2147483647), (.ofNat 2147483647)), .inr (2, (.negSucc 2147483647), (.ofNat 2147483647)), .inr (1, (.ofNat 0), (.ofNat 5)), .inr (2, (.negSucc 2147483647), (.ofNat 2147483647)), .inr (2, (.negSucc 2147483647), (.ofNat 2147483647)), .inr (1, (.ofNat 0), (.ofNat 5)), .inr (2, (.negSucc 2147483647), (.ofNat 2147483647)), .inr (2, (.negSucc 2147483647), (.ofNat 2147483647)), .inr (1, (.ofNat 0), (.ofNat 5)), .inr (2, (.negSucc 2147483647), (.ofNat 2147483647)), .inr (2, (.negSucc 2147483647), (.ofNat 2147483647)), .inr (1, (.ofNat 0), (.ofNat 5)), .inr (2, (.negSucc 2147483647), (.ofNat 2147483647)), .inr (2, (.negSucc 2147483647), (.ofNat 2147483647)), .inr (1, (.ofNat 0), (.ofNat 5)), .inr (2, (.negSucc 2147483647), (.ofNat 2147483647)), .inr (2, (.negSucc 2147483647), (.ofNat 2147483647)), .inr (1, (.ofNat 0), (.ofNat 5)), .inr (2, (.negSucc 2147483647), (.ofNat 2147483647)), .inr (2, (.negSucc 2147483647), (.ofNat 2147483647)), .inr (1, (.ofNat 0), (.ofNat 5)), .inr (2, (.negSucc 2147483647), (.ofNat 2147483647)), .inr (60, (.ofNat 0), (.ofNat 127)), .inr (18, (.negSucc 2147483647), (.ofNat 2147483647))])
def zc630 : AC := .inr (103, .inl [.inl ((.ofNat 0), [(27, (.ofNat 1))])])
def zc631 : AC := .inr (0, .inl [.inl ((.ofNat 0), [(13, (.ofNat 1))]), .inl ((.ofNat 1), [(14, (.ofNat 1))]), .inl ((.ofNat 0), [(15, (.ofNat 1))]), .inl ((.ofNat 0), [(16, (.ofNat 1))]), .inl ((.ofNat 0), [(17, (.ofNat 1))]), .inl ((.ofNat 0), [(18, (.ofNat 1))]), .inl ((.ofNat 0), [(19, (.ofNat 1))]), .inl ((.ofNat 0), [(20, (.ofNat 1))]), .inr (5, (.negSucc 2147483647), (.ofNat 2147483647)), .inr (1, (.ofNat 0), (.ofNat 3)), .inl ((.ofNat 0), [(21, (.ofNat 1))]), .inr (2, (.negSucc 2147483647), (.ofNat 2147483647)), .inr (1, (.ofNat 1), (.ofNat 1000)), .inr (1, (.ofNat 0), (.ofNat 50)), .inr (23, (.negSucc 2147483647), (.ofNat 2147483647)), .inl ((.ofNat 0), [(22, (.ofNat 1))]), .inr (39, (.negSucc 2147483647), (.ofNat 2147483647)), .inl ((.ofNat 0), [(23, (.ofNat 1))]), .inr (39, (.negSucc 2147483647), (.ofNat 2147483647)), .inl ((.ofNat 0), [(24, (.ofNat 1))]), .inr (39, (.negSucc 2147483647), (.ofNat 2147483647)), .inl ((.ofNat 0), [(25, (.ofNat 1))]), .inr (517, (.negSucc 2147483647), (.ofNat 2147483647)), .inr (12, (.ofNat 0), (.ofNat 60)), .inr (1, (.ofNat 0), (.ofNat 5)), .inr (1, (.ofNat 0), (.ofNat 39)), .inr (1, (.ofNat 0), (.ofNat 40)), .inr (1, (.ofNat 0), (.ofNat 5)), .inr (1, (.ofNat 0), (.ofNat 39)), .inr (1, (.ofNat 0), (.ofNat 40)), .inr (1, (.ofNat 0), (.ofNat 5)), .inr (1, (.ofNat 0), (.ofNat 39)), .inr (1, (.ofNat 0), (.ofNat 40)), .inr (1, (.ofNat 0), (.ofNat 5)), .inr (1, (.ofNat 0), (.ofNat 39)), .inr (1, (.ofNat 0), (.ofNat 40)), .inr (1, (.ofNat 0), (.ofNat 5)), .inr (1, (.ofNat 0), (.ofNat 39)), .inr (1, (.ofNat 0), (.ofNat 40)), .inr (1, (.ofNat 0), (.ofNat 5)), .inr (1, (.ofNat 0), (.ofNat 39)), .inr (1, (.ofNat 0), (.ofNat 40)), .inr (1, (.ofNat 0), (.ofNat 5)), .inr (1, (.ofNat 0), (.ofNat 39)), .inr (1, (.ofNat 0), (.ofNat 40)), .inr (1, (.ofNat 0), (.ofNat 5)), .inr (1, (.ofNat 0), (.ofNat 39)), .inr (1, (.ofNat 0), (.ofNat 40)), .inr (78, (.negSucc 2147483647), (.ofNat 2147483647)), .inr (1, (.ofNat 0), (.ofNat 5)), .inr (4, (.negSucc 2147483647), (.ofNat 2147483647)), .inr (1, (.ofNat 0), (.ofNat 5)), .inr (4, (.negSucc 2147483647), (.ofNat 2147483647)), .inr (1, (.ofNat 0), (.ofNat 5)), .inr (4, (.negSucc 2147483647), (.ofNat 2147483647)), .inr (1, (.ofNat 0), (.ofNat 5)), .inr (4, (.negSucc 2147483647), (.ofNat 2147483647)), .inr (1, (.ofNat 0), (.ofNat 5)), .inr (4, (.negSucc 2147483647), (.ofNat 2147483647)), .inr (1, (.ofNat 0), (.ofNat 5)), .inr (4, (.negSucc 2147483647), (.ofNat 2147483647)), .inr (1, (.ofNat 0), (.ofNat 5)), .inr (4, (.negSucc 2147483647), (.ofNat 2147483647)), .inr (1, (.ofNat 0), (.ofNat 5)), .inr (2, (.negSucc 2147483647), (.ofNat 2147483647)), .inr (60, (.ofNat 0), (.ofNat 127)), .inr (18, (.negSucc 2147483647), (.ofNat 2147483647))])
noncomputable def c148_0 : Ct := (148, 1, (36, [(0, (.ofNat 0), (.ofNat 11)), (1, (.negSucc 2147483647), (.ofNat 2147483647)), (2, (.negSucc 2147483647), (.ofNat 2147483647)), (3, (.ofNat 0), (.ofNat 69)), (4, (.ofNat 0), (.ofNat 69)), (5, (.ofNat 0), (.ofNat 8)), (6, (.negSucc 2147483647), (.ofNat 2147483647)), (7, (.negSucc 2147483647), (.ofNat 2147483647)), (8, (.negSucc 2147483647), (.ofNat 2147483647)), (9, (.negSucc 2147483647), (.ofNat 2147483647)), (10, (.negSucc 2147483647), (.ofNat 2147483647)), (11, (.negSucc 2147483647), (.ofNat 2147483647)), (12, (.negSucc 2147483647), (.ofNat 2147483647)), (13, (.ofNat 1), (.ofNat 4)), (14, (.ofNat 0), (.ofNat 60)), (15, (.ofNat 0), (.ofNat 8)), (16, (.ofNat 0), (.ofNat 6)), (17, (.ofNat 0), (.ofNat 8)), (18, (.ofNat 0), (.ofNat 60)), (19, (.ofNat 0), (.ofNat 60)), (20, (.ofNat 0), (.ofNat 10)), (21, (.negSucc 2147483647), (.ofNat 2147483647)), (22, (.ofNat 0), (.ofNat 1)), (23, (.ofNat 0), (.ofNat 1)), (24, (.ofNat 0), (.ofNat 1)), (25, (.ofNat 0), (.ofNat 1))], [((.ofNat 1), [(22, (.negSucc 0)), (23, (.negSucc 0)), (24, (.negSucc 0)), (25, (.negSucc 0))])], [.inr (.inl (some 0)), .inl (false, ((.ofNat 200), [])), .inl (false, ((.ofNat 1), [])), .inl (false, ((.ofNat 0), [])), .inl (false, ((.ofNat 0), [(0, (.ofNat 1))])), .inl (false, ((.ofNat 0), [(1, (.ofNat 1))])), .inl (false, ((.ofNat 0), [(2, (.ofNat 1))]))], [zc628,
    zc629,
    zc59,
    zc630,
    zc61,
    zc62,
    zc63,
    .inr (1, .inr (.inl 70)),
    .inr (1, .inr (.inl 8)),
    zc30,
    zc31,
    zc32,
    zc33,
    zc34,
    .inr (1, .inr (.inl 4))], [(1, [1], []), (2, [1], [])]),
  [((36, [], [], [.inl (false, ((.ofNat 1), [(14, (.ofNat 1))]))], [zc628,
    zc631,
    zc59,
    zc630,
    zc61,
    zc62,
    zc63,
    .inr (1, .inr (.inl 70)),
    .inr (1, .inr (.inl 8)),
    zc30,
    zc31,
    zc32,
    zc33,
    zc34,
    .inr (1, .inr (.inl 4))], [(1, [1], []), (2, [1], [])]), 0, 0)])
noncomputable def c148_0_e : List Ct := []
noncomputable def c148_0_pts : List PE := []
set_option maxRecDepth 100000 in
theorem c148_0_k : enCtF c148_0 c148_0_e (c148_0_pts ++ []) (some (14, 0, 61)) ((hOr (hOpen 12 307 1) (hClose 53 307 1)), noM, 0, 9007199254745088, 36) 3000 = true := by decide +kernel
set_option maxRecDepth 100000 in
theorem c148_0_v : ValidC PPk c148_0 := ct_ok fpk ⟨(hOr_ok (hOpen_ok 12 307 1) (hClose_ok 53 307 1)), noM_ok⟩ (d := 0) (ext := []) (pts := c148_0_pts) (env := c148_0_e) rfl (fun _ h => (by cases h)) ext_nil (fun q h => (by cases h; exact Nat.le_of_ble_eq_true rfl)) (enF c148_0_k) (fun _ h => (by cases h))

noncomputable def c148_1 : Ct := (148, 1, (36, [(0, (.ofNat 0), (.ofNat 11)), (1, (.ofNat 0), (.ofNat 11)), (2, (.ofNat 0), (.ofNat 11)), (3, (.ofNat 0), (.ofNat 69)), (4, (.ofNat 0), (.ofNat 69)), (5, (.ofNat 0), (.ofNat 8)), (6, (.negSucc 2147483647), (.ofNat 2147483647)), (7, (.negSucc 2147483647), (.ofNat 2147483647)), (8, (.negSucc 2147483647), (.ofNat 2147483647)), (9, (.negSucc 2147483647), (.ofNat 2147483647)), (10, (.negSucc 2147483647), (.ofNat 2147483647)), (11, (.negSucc 2147483647), (.ofNat 2147483647)), (12, (.negSucc 2147483647), (.ofNat 2147483647)), (13, (.ofNat 1), (.ofNat 4)), (14, (.ofNat 0), (.ofNat 60)), (15, (.ofNat 0), (.ofNat 8)), (16, (.ofNat 0), (.ofNat 6)), (17, (.ofNat 0), (.ofNat 8)), (18, (.ofNat 0), (.ofNat 60)), (19, (.ofNat 0), (.ofNat 60)), (20, (.ofNat 0), (.ofNat 10)), (21, (.negSucc 2147483647), (.ofNat 2147483647)), (22, (.ofNat 0), (.ofNat 1)), (23, (.ofNat 0), (.ofNat 1)), (24, (.ofNat 0), (.ofNat 1)), (25, (.ofNat 0), (.ofNat 1))], [((.ofNat 1), [(22, (.negSucc 0)), (23, (.negSucc 0)), (24, (.negSucc 0)), (25, (.negSucc 0))])], [.inr (.inl (some 0)), .inl (false, ((.ofNat 200), [])), .inl (false, ((.ofNat 1), [])), .inl (false, ((.ofNat 1), [])), .inl (false, ((.ofNat 0), [(0, (.ofNat 1))])), .inl (false, ((.ofNat 0), [(1, (.ofNat 1))])), .inl (false, ((.ofNat 0), [(2, (.ofNat 1))]))], [zc628,
    zc629,
    zc59,
    zc630,
    zc61,
    zc62,
    zc63,
    .inr (1, .inr (.inl 70)),
    .inr (1, .inr (.inl 8)),
    zc30,
    zc31,
    zc32,
    zc33,
    zc34,
    .inr (1, .inr (.inl 4))], [(1, [1], []), (2, [1], [])]),
  [((36, [], [], [.inl (false, ((.ofNat 1), [(14, (.ofNat 1))]))], [zc628,
    zc631,
    zc59,
    zc630,
    zc61,
    zc62,
    zc63,
    .inr (1, .inr (.inl 70)),
    .inr (1, .inr (.inl 8)),
    zc30,
    zc31,
    zc32,
    zc33,
    zc34,
    .inr (1, .inr (.inl 4))], [(1, [1], []), (2, [1], [])]), 0, 0)])
noncomputable def c148_1_e : List Ct := []
noncomputable def c148_1_pts : List PE := []
set_option maxRecDepth 100000 in
theorem c148_1_k : enCtF c148_1 c148_1_e (c148_1_pts ++ []) (some (14, 0, 61)) ((hOr (hOpen 12 307 1) (hClose 53 307 1)), noM, 0, 9007199254745088, 36) 3000 = true := by decide +kernel
set_option maxRecDepth 100000 in
theorem c148_1_v : ValidC PPk c148_1 := ct_ok fpk ⟨(hOr_ok (hOpen_ok 12 307 1) (hClose_ok 53 307 1)), noM_ok⟩ (d := 0) (ext := []) (pts := c148_1_pts) (env := c148_1_e) rfl (fun _ h => (by cases h)) ext_nil (fun q h => (by cases h; exact Nat.le_of_ble_eq_true rfl)) (enF c148_1_k) (fun _ h => (by cases h))

noncomputable def c148_2 : Ct := (148, 1, (36, [(0, (.ofNat 0), (.ofNat 11)), (1, (.ofNat 0), (.ofNat 11)), (2, (.ofNat 0), (.ofNat 11)), (3, (.ofNat 0), (.ofNat 69)), (4, (.ofNat 0), (.ofNat 69)), (5, (.ofNat 0), (.ofNat 8)), (6, (.negSucc 2147483647), (.ofNat 2147483647)), (7, (.negSucc 2147483647), (.ofNat 2147483647)), (8, (.negSucc 2147483647), (.ofNat 2147483647)), (9, (.negSucc 2147483647), (.ofNat 2147483647)), (10, (.negSucc 2147483647), (.ofNat 2147483647)), (11, (.negSucc 2147483647), (.ofNat 2147483647)), (12, (.negSucc 2147483647), (.ofNat 2147483647)), (13, (.ofNat 1), (.ofNat 4)), (14, (.ofNat 0), (.ofNat 60)), (15, (.ofNat 0), (.ofNat 8)), (16, (.ofNat 0), (.ofNat 6)), (17, (.ofNat 0), (.ofNat 8)), (18, (.ofNat 0), (.ofNat 60)), (19, (.ofNat 0), (.ofNat 60)), (20, (.ofNat 0), (.ofNat 10)), (21, (.negSucc 2147483647), (.ofNat 2147483647)), (22, (.ofNat 0), (.ofNat 1)), (23, (.ofNat 0), (.ofNat 1)), (24, (.ofNat 0), (.ofNat 1)), (25, (.ofNat 0), (.ofNat 1))], [((.ofNat 1), [(22, (.negSucc 0)), (23, (.negSucc 0)), (24, (.negSucc 0)), (25, (.negSucc 0))])], [.inr (.inl (some 0)), .inl (false, ((.ofNat 200), [])), .inl (false, ((.ofNat 1), [])), .inl (false, ((.ofNat 2), [])), .inl (false, ((.ofNat 0), [(0, (.ofNat 1))])), .inl (false, ((.ofNat 0), [(1, (.ofNat 1))])), .inl (false, ((.ofNat 0), [(2, (.ofNat 1))]))], [zc628,
    zc629,
    zc59,
    zc630,
    zc61,
    zc62,
    zc63,
    .inr (1, .inr (.inl 70)),
    .inr (1, .inr (.inl 8)),
    zc30,
    zc31,
    zc32,
    zc33,
    zc34,
    .inr (1, .inr (.inl 4))], [(1, [1], []), (2, [1], [])]),
  [((36, [], [], [.inl (false, ((.ofNat 1), [(14, (.ofNat 1))]))], [zc628,
    zc631,
    zc59,
    zc630,
    zc61,
    zc62,
    zc63,
    .inr (1, .inr (.inl 70)),
    .inr (1, .inr (.inl 8)),
    zc30,
    zc31,
    zc32,
    zc33,
    zc34,
    .inr (1, .inr (.inl 4))], [(1, [1], []), (2, [1], [])]), 0, 0)])
noncomputable def c148_2_e : List Ct := []
noncomputable def c148_2_pts : List PE := []
set_option maxRecDepth 100000 in
theorem c148_2_k : enCtF c148_2 c148_2_e (c148_2_pts ++ []) (some (14, 0, 61)) ((hOr (hOpen 12 307 1) (hClose 53 307 1)), noM, 0, 9007199254745088, 36) 3000 = true := by decide +kernel
set_option maxRecDepth 100000 in
theorem c148_2_v : ValidC PPk c148_2 := ct_ok fpk ⟨(hOr_ok (hOpen_ok 12 307 1) (hClose_ok 53 307 1)), noM_ok⟩ (d := 0) (ext := []) (pts := c148_2_pts) (env := c148_2_e) rfl (fun _ h => (by cases h)) ext_nil (fun q h => (by cases h; exact Nat.le_of_ble_eq_true rfl)) (enF c148_2_k) (fun _ h => (by cases h))

noncomputable def c148_3 : Ct := (148, 1, (36, [(0, (.ofNat 0), (.ofNat 11)), (1, (.ofNat 0), (.ofNat 11)), (2, (.ofNat 0), (.ofNat 11)), (3, (.ofNat 0), (.ofNat 69)), (4, (.ofNat 0), (.ofNat 69)), (5, (.ofNat 0), (.ofNat 8)), (6, (.negSucc 2147483647), (.ofNat 2147483647)), (7, (.negSucc 2147483647), (.ofNat 2147483647)), (8, (.negSucc 2147483647), (.ofNat 2147483647)), (9, (.negSucc 2147483647), (.ofNat 2147483647)), (10, (.negSucc 2147483647), (.ofNat 2147483647)), (11, (.negSucc 2147483647), (.ofNat 2147483647)), (12, (.negSucc 2147483647), (.ofNat 2147483647)), (13, (.ofNat 1), (.ofNat 4)), (14, (.ofNat 0), (.ofNat 60)), (15, (.ofNat 0), (.ofNat 8)), (16, (.ofNat 0), (.ofNat 6)), (17, (.ofNat 0), (.ofNat 8)), (18, (.ofNat 0), (.ofNat 60)), (19, (.ofNat 0), (.ofNat 60)), (20, (.ofNat 0), (.ofNat 10)), (21, (.negSucc 2147483647), (.ofNat 2147483647)), (22, (.ofNat 0), (.ofNat 1)), (23, (.ofNat 0), (.ofNat 1)), (24, (.ofNat 0), (.ofNat 1)), (25, (.ofNat 0), (.ofNat 1))], [((.ofNat 1), [(22, (.negSucc 0)), (23, (.negSucc 0)), (24, (.negSucc 0)), (25, (.negSucc 0))])], [.inr (.inl (some 0)), .inl (false, ((.ofNat 200), [])), .inl (false, ((.ofNat 1), [])), .inl (false, ((.ofNat 3), [])), .inl (false, ((.ofNat 0), [(0, (.ofNat 1))])), .inl (false, ((.ofNat 0), [(1, (.ofNat 1))])), .inl (false, ((.ofNat 0), [(2, (.ofNat 1))]))], [zc628,
    zc629,
    zc59,
    zc630,
    zc61,
    zc62,
    zc63,
    .inr (1, .inr (.inl 70)),
    .inr (1, .inr (.inl 8)),
    zc30,
    zc31,
    zc32,
    zc33,
    zc34,
    .inr (1, .inr (.inl 4))], [(1, [1], []), (2, [1], [])]),
  [((36, [], [], [.inl (false, ((.ofNat 1), [(14, (.ofNat 1))]))], [zc628,
    zc631,
    zc59,
    zc630,
    zc61,
    zc62,
    zc63,
    .inr (1, .inr (.inl 70)),
    .inr (1, .inr (.inl 8)),
    zc30,
    zc31,
    zc32,
    zc33,
    zc34,
    .inr (1, .inr (.inl 4))], [(1, [1], []), (2, [1], [])]), 0, 0)])
noncomputable def c148_3_e : List Ct := []
noncomputable def c148_3_pts : List PE := []
set_option maxRecDepth 100000 in
theorem c148_3_k : enCtF c148_3 c148_3_e (c148_3_pts ++ []) (some (14, 0, 61)) ((hOr (hOpen 12 307 1) (hClose 53 307 1)), noM, 0, 9007199254745088, 36) 3000 = true := by decide +kernel
set_option maxRecDepth 100000 in
theorem c148_3_v : ValidC PPk c148_3 := ct_ok fpk ⟨(hOr_ok (hOpen_ok 12 307 1) (hClose_ok 53 307 1)), noM_ok⟩ (d := 0) (ext := []) (pts := c148_3_pts) (env := c148_3_e) rfl (fun _ h => (by cases h)) ext_nil (fun q h => (by cases h; exact Nat.le_of_ble_eq_true rfl)) (enF c148_3_k) (fun _ h => (by cases h))

noncomputable def c148_4 : Ct := (148, 1, (36, [(0, (.ofNat 0), (.ofNat 11)), (1, (.ofNat 0), (.ofNat 11)), (2, (.ofNat 0), (.ofNat 11)), (3, (.ofNat 0), (.ofNat 69)), (4, (.ofNat 0), (.ofNat 69)), (5, (.ofNat 0), (.ofNat 8)), (6, (.negSucc 2147483647), (.ofNat 2147483647)), (7, (.negSucc 2147483647), (.ofNat 2147483647)), (8, (.negSucc 2147483647), (.ofNat 2147483647)), (9, (.negSucc 2147483647), (.ofNat 2147483647)), (10, (.negSucc 2147483647), (.ofNat 2147483647)), (11, (.negSucc 2147483647), (.ofNat 2147483647)), (12, (.negSucc 2147483647), (.ofNat 2147483647)), (13, (.ofNat 1), (.ofNat 4)), (14, (.ofNat 0), (.ofNat 60)), (15, (.ofNat 0), (.ofNat 8)), (16, (.ofNat 0), (.ofNat 6)), (17, (.ofNat 0), (.ofNat 8)), (18, (.ofNat 0), (.ofNat 60)), (19, (.ofNat 0), (.ofNat 60)), (20, (.ofNat 0), (.ofNat 10)), (21, (.negSucc 2147483647), (.ofNat 2147483647)), (22, (.ofNat 0), (.ofNat 1)), (23, (.ofNat 0), (.ofNat 1)), (24, (.ofNat 0), (.ofNat 1)), (25, (.ofNat 0), (.ofNat 1))], [((.ofNat 1), [(22, (.negSucc 0)), (23, (.negSucc 0)), (24, (.negSucc 0)), (25, (.negSucc 0))])], [.inr (.inl (some 0)), .inl (false, ((.ofNat 200), [])), .inl (false, ((.ofNat 1), [])), .inl (false, ((.ofNat 4), [])), .inl (false, ((.ofNat 0), [(0, (.ofNat 1))])), .inl (false, ((.ofNat 0), [(1, (.ofNat 1))])), .inl (false, ((.ofNat 0), [(2, (.ofNat 1))]))], [zc628,
    zc629,
    zc59,
    zc630,
    zc61,
    zc62,
    zc63,
    .inr (1, .inr (.inl 70)),
    .inr (1, .inr (.inl 8)),
    zc30,
    zc31,
    zc32,
    zc33,
    zc34,
    .inr (1, .inr (.inl 4))], [(1, [1], []), (2, [1], [])]),
  [((36, [], [], [.inl (false, ((.ofNat 1), [(14, (.ofNat 1))]))], [zc628,
    zc631,
    zc59,
    zc630,
    zc61,
    zc62,
    zc63,
    .inr (1, .inr (.inl 70)),
    .inr (1, .inr (.inl 8)),
    zc30,
    zc31,
    zc32,
    zc33,
    zc34,
    .inr (1, .inr (.inl 4))], [(1, [1], []), (2, [1], [])]), 0, 0)])
noncomputable def c148_4_e : List Ct := []
noncomputable def c148_4_pts : List PE := []
set_option maxRecDepth 100000 in
theorem c148_4_k : enCtF c148_4 c148_4_e (c148_4_pts ++ []) (some (14, 0, 61)) ((hOr (hOpen 12 307 1) (hClose 53 307 1)), noM, 0, 9007199254745088, 36) 3000 = true := by decide +kernel
set_option maxRecDepth 100000 in
theorem c148_4_v : ValidC PPk c148_4 := ct_ok fpk ⟨(hOr_ok (hOpen_ok 12 307 1) (hClose_ok 53 307 1)), noM_ok⟩ (d := 0) (ext := []) (pts := c148_4_pts) (env := c148_4_e) rfl (fun _ h => (by cases h)) ext_nil (fun q h => (by cases h; exact Nat.le_of_ble_eq_true rfl)) (enF c148_4_k) (fun _ h => (by cases h))

noncomputable def c148_5 : Ct := (148, 1, (36, [(0, (.ofNat 0), (.ofNat 11)), (1, (.ofNat 0), (.ofNat 11)), (2, (.ofNat 0), (.ofNat 11)), (3, (.ofNat 0), (.ofNat 69)), (4, (.ofNat 0), (.ofNat 69)), (5, (.ofNat 0), (.ofNat 8)), (6, (.negSucc 2147483647), (.ofNat 2147483647)), (7, (.negSucc 2147483647), (.ofNat 2147483647)), (8, (.negSucc 2147483647), (.ofNat 2147483647)), (9, (.negSucc 2147483647), (.ofNat 2147483647)), (10, (.negSucc 2147483647), (.ofNat 2147483647)), (11, (.negSucc 2147483647), (.ofNat 2147483647)), (12, (.negSucc 2147483647), (.ofNat 2147483647)), (13, (.ofNat 1), (.ofNat 4)), (14, (.ofNat 0), (.ofNat 60)), (15, (.ofNat 0), (.ofNat 8)), (16, (.ofNat 0), (.ofNat 6)), (17, (.ofNat 0), (.ofNat 8)), (18, (.ofNat 0), (.ofNat 60)), (19, (.ofNat 0), (.ofNat 60)), (20, (.ofNat 0), (.ofNat 10)), (21, (.negSucc 2147483647), (.ofNat 2147483647)), (22, (.ofNat 0), (.ofNat 1)), (23, (.ofNat 0), (.ofNat 1)), (24, (.ofNat 0), (.ofNat 1)), (25, (.ofNat 0), (.ofNat 1))], [((.ofNat 1), [(22, (.negSucc 0)), (23, (.negSucc 0)), (24, (.negSucc 0)), (25, (.negSucc 0))])], [.inr (.inl (some 0)), .inl (false, ((.ofNat 200), [])), .inl (false, ((.ofNat 1), [])), .inl (false, ((.ofNat 5), [])), .inl (false, ((.ofNat 0), [(0, (.ofNat 1))])), .inl (false, ((.ofNat 0), [(1, (.ofNat 1))])), .inl (false, ((.ofNat 0), [(2, (.ofNat 1))]))], [zc628,
    zc629,
    zc59,
    zc630,
    zc61,
    zc62,
    zc63,
    .inr (1, .inr (.inl 70)),
    .inr (1, .inr (.inl 8)),
    zc30,
    zc31,
    zc32,
    zc33,
    zc34,
    .inr (1, .inr (.inl 4))], [(1, [1], []), (2, [1], [])]),
  [((36, [], [], [.inl (false, ((.ofNat 1), [(14, (.ofNat 1))]))], [zc628,
    zc631,
    zc59,
    zc630,
    zc61,
    zc62,
    zc63,
    .inr (1, .inr (.inl 70)),
    .inr (1, .inr (.inl 8)),
    zc30,
    zc31,
    zc32,
    zc33,
    zc34,
    .inr (1, .inr (.inl 4))], [(1, [1], []), (2, [1], [])]), 0, 0)])
noncomputable def c148_5_e : List Ct := []
noncomputable def c148_5_pts : List PE := []
set_option maxRecDepth 100000 in
theorem c148_5_k : enCtF c148_5 c148_5_e (c148_5_pts ++ []) (some (14, 0, 61)) ((hOr (hOpen 12 307 1) (hClose 53 307 1)), noM, 0, 9007199254745088, 36) 3000 = true := by decide +kernel
set_option maxRecDepth 100000 in
theorem c148_5_v : ValidC PPk c148_5 := ct_ok fpk ⟨(hOr_ok (hOpen_ok 12 307 1) (hClose_ok 53 307 1)), noM_ok⟩ (d := 0) (ext := []) (pts := c148_5_pts) (env := c148_5_e) rfl (fun _ h => (by cases h)) ext_nil (fun q h => (by cases h; exact Nat.le_of_ble_eq_true rfl)) (enF c148_5_k) (fun _ h => (by cases h))

noncomputable def c148_6 : Ct := (148, 1, (36, [(0, (.ofNat 0), (.ofNat 11)), (1, (.ofNat 0), (.ofNat 11)), (2, (.ofNat 0), (.ofNat 11)), (3, (.ofNat 0), (.ofNat 69)), (4, (.ofNat 0), (.ofNat 69)), (5, (.ofNat 0), (.ofNat 8)), (6, (.negSucc 2147483647), (.ofNat 2147483647)), (7, (.negSucc 2147483647), (.ofNat 2147483647)), (8, (.negSucc 2147483647), (.ofNat 2147483647)), (9, (.negSucc 2147483647), (.ofNat 2147483647)), (10, (.negSucc 2147483647), (.ofNat 2147483647)), (11, (.negSucc 2147483647), (.ofNat 2147483647)), (12, (.negSucc 2147483647), (.ofNat 2147483647)), (13, (.ofNat 1), (.ofNat 4)), (14, (.ofNat 0), (.ofNat 60)), (15, (.ofNat 0), (.ofNat 8)), (16, (.ofNat 0), (.ofNat 6)), (17, (.ofNat 0), (.ofNat 8)), (18, (.ofNat 0), (.ofNat 60)), (19, (.ofNat 0), (.ofNat 60)), (20, (.ofNat 0), (.ofNat 10)), (21, (.negSucc 2147483647), (.ofNat 2147483647)), (22, (.ofNat 0), (.ofNat 1)), (23, (.ofNat 0), (.ofNat 1)), (24, (.ofNat 0), (.ofNat 1)), (25, (.ofNat 0), (.ofNat 1))], [((.ofNat 1), [(22, (.negSucc 0)), (23, (.negSucc 0)), (24, (.negSucc 0)), (25, (.negSucc 0))])], [.inr (.inl (some 0)), .inl (false, ((.ofNat 200), [])), .inl (false, ((.ofNat 1), [])), .inl (false, ((.ofNat 6), [])), .inl (false, ((.ofNat 0), [(0, (.ofNat 1))])), .inl (false, ((.ofNat 0), [(1, (.ofNat 1))])), .inl (false, ((.ofNat 0), [(2, (.ofNat 1))]))], [zc628,
    zc629,
    zc59,
    zc630,
    zc61,
    zc62,
    zc63,
    .inr (1, .inr (.inl 70)),
    .inr (1, .inr (.inl 8)),
    zc30,
    zc31,
    zc32,
    zc33,
    zc34,
    .inr (1, .inr (.inl 4))], [(1, [1], []), (2, [1], [])]),
  [((36, [], [], [.inl (false, ((.ofNat 1), [(14, (.ofNat 1))]))], [zc628,
    zc631,
    zc59,
    zc630,
    zc61,
    zc62,
    zc63,
    .inr (1, .inr (.inl 70)),
    .inr (1, .inr (.inl 8)),
    zc30,
    zc31,
    zc32,
    zc33,
    zc34,
    .inr (1, .inr (.inl 4))], [(1, [1], []), (2, [1], [])]), 0, 0)])
noncomputable def c148_6_e : List Ct := []
noncomputable def c148_6_pts : List PE := []
set_option maxRecDepth 100000 in
theorem c148_6_k : enCtF c148_6 c148_6_e (c148_6_pts ++ []) (some (14, 0, 61)) ((hOr (hOpen 12 307 1) (hClose 53 307 1)), noM, 0, 9007199254745088, 36) 3000 = true := by decide +kernel
set_option maxRecDepth 100000 in
theorem c148_6_v : ValidC PPk c148_6 := ct_ok fpk ⟨(hOr_ok (hOpen_ok 12 307 1) (hClose_ok 53 307 1)), noM_ok⟩ (d := 0) (ext := []) (pts := c148_6_pts) (env := c148_6_e) rfl (fun _ h => (by cases h)) ext_nil (fun q h => (by cases h; exact Nat.le_of_ble_eq_true rfl)) (enF c148_6_k) (fun _ h => (by cases h))

noncomputable def c148_7 : Ct := (148, 1, (36, [(0, (.ofNat 0), (.ofNat 11)), (1, (.ofNat 1), (.ofNat 20)), (2, (.negSucc 2147483647), (.ofNat 2147483647)), (3, (.ofNat 0), (.ofNat 69)), (4, (.ofNat 0), (.ofNat 69)), (5, (.ofNat 0), (.ofNat 8)), (6, (.negSucc 2147483647), (.ofNat 2147483647)), (7, (.negSucc 2147483647), (.ofNat 2147483647)), (8, (.negSucc 2147483647), (.ofNat 2147483647)), (9, (.negSucc 2147483647), (.ofNat 2147483647)), (10, (.negSucc 2147483647), (.ofNat 2147483647)), (11, (.negSucc 2147483647), (.ofNat 2147483647)), (12, (.negSucc 2147483647), (.ofNat 2147483647)), (13, (.ofNat 1), (.ofNat 4)), (14, (.ofNat 0), (.ofNat 60)), (15, (.ofNat 0), (.ofNat 8)), (16, (.ofNat 0), (.ofNat 6)), (17, (.ofNat 0), (.ofNat 8)), (18, (.ofNat 0), (.ofNat 60)), (19, (.ofNat 0), (.ofNat 60)), (20, (.ofNat 0), (.ofNat 10)), (21, (.negSucc 2147483647), (.ofNat 2147483647)), (22, (.ofNat 0), (.ofNat 1)), (23, (.ofNat 0), (.ofNat 1)), (24, (.ofNat 0), (.ofNat 1)), (25, (.ofNat 0), (.ofNat 1))], [((.ofNat 1), [(22, (.negSucc 0)), (23, (.negSucc 0)), (24, (.negSucc 0)), (25, (.negSucc 0))])], [.inr (.inl (some 0)), .inl (false, ((.ofNat 200), [])), .inl (false, ((.ofNat 1), [])), .inl (false, ((.ofNat 7), [])), .inl (false, ((.ofNat 0), [(0, (.ofNat 1))])), .inl (false, ((.ofNat 0), [(1, (.ofNat 1))])), .inl (false, ((.ofNat 0), [(2, (.ofNat 1))]))], [zc628,
    zc629,
    zc59,
    zc630,
    zc61,
    zc62,
    zc63,
    .inr (1, .inr (.inl 70)),
    .inr (1, .inr (.inl 8)),
    zc30,
    zc31,
    zc32,
    zc33,
    zc34,
    .inr (1, .inr (.inl 4))], [(1, [1], []), (2, [1], [])]),
  [((36, [], [], [.inl (false, ((.ofNat 1), [(14, (.ofNat 1))]))], [zc628,
    zc631,
    zc59,
    zc630,
    zc61,
    zc62,
    zc63,
    .inr (1, .inr (.inl 70)),
    .inr (1, .inr (.inl 8)),
    zc30,
    zc31,
    zc32,
    zc33,
    zc34,
    .inr (1, .inr (.inl 4))], [(1, [1], []), (2, [1], [])]), 0, 0)])
noncomputable def c148_7_e : List Ct := []
noncomputable def c148_7_pts : List PE := []
set_option maxRecDepth 100000 in
theorem c148_7_k : enCtF c148_7 c148_7_e (c148_7_pts ++ []) (some (14, 0, 61)) ((hOr (hOpen 12 307 1) (hClose 53 307 1)), noM, 0, 9007199254745088, 36) 3000 = true := by decide +kernel
set_option maxRecDepth 100000 in
theorem c148_7_v : ValidC PPk c148_7 := ct_ok fpk ⟨(hOr_ok (hOpen_ok 12 307 1) (hClose_ok 53 307 1)), noM_ok⟩ (d := 0) (ext := []) (pts := c148_7_pts) (env := c148_7_e) rfl (fun _ h => (by cases h)) ext_nil (fun q h => (by cases h; exact Nat.le_of_ble_eq_true rfl)) (enF c148_7_k) (fun _ h => (by cases h))

noncomputable def c148_8 : Ct := (148, 1, (36, [(0, (.ofNat 0), (.ofNat 11)), (1, (.ofNat 0), (.ofNat 1)), (2, (.negSucc 2147483647), (.ofNat 2147483647)), (3, (.ofNat 0), (.ofNat 69)), (4, (.ofNat 0), (.ofNat 69)), (5, (.ofNat 0), (.ofNat 8)), (6, (.negSucc 2147483647), (.ofNat 2147483647)), (7, (.negSucc 2147483647), (.ofNat 2147483647)), (8, (.negSucc 2147483647), (.ofNat 2147483647)), (9, (.negSucc 2147483647), (.ofNat 2147483647)), (10, (.negSucc 2147483647), (.ofNat 2147483647)), (11, (.negSucc 2147483647), (.ofNat 2147483647)), (12, (.negSucc 2147483647), (.ofNat 2147483647)), (13, (.ofNat 1), (.ofNat 4)), (14, (.ofNat 0), (.ofNat 60)), (15, (.ofNat 0), (.ofNat 8)), (16, (.ofNat 0), (.ofNat 6)), (17, (.ofNat 0), (.ofNat 8)), (18, (.ofNat 0), (.ofNat 60)), (19, (.ofNat 0), (.ofNat 60)), (20, (.ofNat 0), (.ofNat 10)), (21, (.negSucc 2147483647), (.ofNat 2147483647)), (22, (.ofNat 0), (.ofNat 1)), (23, (.ofNat 0), (.ofNat 1)), (24, (.ofNat 0), (.ofNat 1)), (25, (.ofNat 0), (.ofNat 1))], [((.ofNat 1), [(22, (.negSucc 0)), (23, (.negSucc 0)), (24, (.negSucc 0)), (25, (.negSucc 0))])], [.inr (.inl (some 0)), .inl (false, ((.ofNat 200), [])), .inl (false, ((.ofNat 1), [])), .inl (false, ((.ofNat 8), [])), .inl (false, ((.ofNat 0), [(0, (.ofNat 1))])), .inl (false, ((.ofNat 0), [(1, (.ofNat 1))])), .inl (false, ((.ofNat 0), [(2, (.ofNat 1))]))], [zc628,
    zc629,
    zc59,
    zc630,
    zc61,
    zc62,
    zc63,
    .inr (1, .inr (.inl 70)),
    .inr (1, .inr (.inl 8)),
    zc30,
    zc31,
    zc32,
    zc33,
    zc34,
    .inr (1, .inr (.inl 4))], [(1, [1], []), (2, [1], [])]),
  [((36, [], [], [.inl (false, ((.ofNat 1), [(14, (.ofNat 1))]))], [zc628,
    zc631,
    zc59,
    zc630,
    zc61,
    zc62,
    zc63,
    .inr (1, .inr (.inl 70)),
    .inr (1, .inr (.inl 8)),
    zc30,
    zc31,
    zc32,
    zc33,
    zc34,
    .inr (1, .inr (.inl 4))], [(1, [1], []), (2, [1], [])]), 0, 0)])
noncomputable def c148_8_e : List Ct := []
noncomputable def c148_8_pts : List PE := []
set_option maxRecDepth 100000 in
theorem c148_8_k : enCtF c148_8 c148_8_e (c148_8_pts ++ []) (some (14, 0, 61)) ((hOr (hOpen 12 307 1) (hClose 53 307 1)), noM, 0, 9007199254745088, 36) 3000 = true := by decide +kernel
set_option maxRecDepth 100000 in
theorem c148_8_v : ValidC PPk c148_8 := ct_ok fpk ⟨(hOr_ok (hOpen_ok 12 307 1) (hClose_ok 53 307 1)), noM_ok⟩ (d := 0) (ext := []) (pts := c148_8_pts) (env := c148_8_e) rfl (fun _ h => (by cases h)) ext_nil (fun q h => (by cases h; exact Nat.le_of_ble_eq_true rfl)) (enF c148_8_k) (fun _ h => (by cases h))

noncomputable def c148_9 : Ct := (148, 1, (36, [(0, (.ofNat 0), (.ofNat 11)), (1, (.ofNat 0), (.ofNat 7)), (2, (.negSucc 2147483647), (.ofNat 2147483647)), (3, (.ofNat 0), (.ofNat 69)), (4, (.ofNat 0), (.ofNat 69)), (5, (.ofNat 0), (.ofNat 8)), (6, (.negSucc 2147483647), (.ofNat 2147483647)), (7, (.negSucc 2147483647), (.ofNat 2147483647)), (8, (.negSucc 2147483647), (.ofNat 2147483647)), (9, (.negSucc 2147483647), (.ofNat 2147483647)), (10, (.negSucc 2147483647), (.ofNat 2147483647)), (11, (.negSucc 2147483647), (.ofNat 2147483647)), (12, (.negSucc 2147483647), (.ofNat 2147483647)), (13, (.ofNat 1), (.ofNat 4)), (14, (.ofNat 0), (.ofNat 60)), (15, (.ofNat 0), (.ofNat 8)), (16, (.ofNat 0), (.ofNat 6)), (17, (.ofNat 0), (.ofNat 8)), (18, (.ofNat 0), (.ofNat 60)), (19, (.ofNat 0), (.ofNat 60)), (20, (.ofNat 0), (.ofNat 10)), (21, (.negSucc 2147483647), (.ofNat 2147483647)), (22, (.ofNat 0), (.ofNat 1)), (23, (.ofNat 0), (.ofNat 1)), (24, (.ofNat 0), (.ofNat 1)), (25, (.ofNat 0), (.ofNat 1))], [((.ofNat 1), [(22, (.negSucc 0)), (23, (.negSucc 0)), (24, (.negSucc 0)), (25, (.negSucc 0))])], [.inr (.inl (some 0)), .inl (false, ((.ofNat 200), [])), .inl (false, ((.ofNat 1), [])), .inl (false, ((.ofNat 9), [])), .inl (false, ((.ofNat 0), [(0, (.ofNat 1))])), .inl (false, ((.ofNat 0), [(1, (.ofNat 1))])), .inl (false, ((.ofNat 0), [(2, (.ofNat 1))]))], [zc628,
    zc629,
    zc59,
    zc630,
    zc61,
    zc62,
    zc63,
    .inr (1, .inr (.inl 70)),
    .inr (1, .inr (.inl 8)),
    zc30,
    zc31,
    zc32,
    zc33,
    zc34,
    .inr (1, .inr (.inl 4))], [(1, [1], []), (2, [1], [])]),
  [((36, [], [], [.inl (false, ((.ofNat 1), [(14, (.ofNat 1))]))], [zc628,
    zc631,
    zc59,
    zc630,
    zc61,
    zc62,
    zc63,
    .inr (1, .inr (.inl 70)),
    .inr (1, .inr (.inl 8)),
    zc30,
    zc31,
    zc32,
    zc33,
    zc34,
    .inr (1, .inr (.inl 4))], [(1, [1], []), (2, [1], [])]), 0, 0)])
noncomputable def c148_9_e : List Ct := []
noncomputable def c148_9_pts : List PE := []
set_option maxRecDepth 100000 in
theorem c148_9_k : enCtF c148_9 c148_9_e (c148_9_pts ++ []) (some (14, 0, 61)) ((hOr (hOpen 12 307 1) (hClose 53 307 1)), noM, 0, 9007199254745088, 36) 3000 = true := by decide +kernel
set_option maxRecDepth 100000 in
theorem c148_9_v : ValidC PPk c148_9 := ct_ok fpk ⟨(hOr_ok (hOpen_ok 12 307 1) (hClose_ok 53 307 1)), noM_ok⟩ (d := 0) (ext := []) (pts := c148_9_pts) (env := c148_9_e) rfl (fun _ h => (by cases h)) ext_nil (fun q h => (by cases h; exact Nat.le_of_ble_eq_true rfl)) (enF c148_9_k) (fun _ h => (by cases h))

noncomputable def c148_10 : Ct := (148, 1, (36, [(0, (.ofNat 0), (.ofNat 11)), (1, (.ofNat 1), (.ofNat 20)), (2, (.negSucc 2147483647), (.ofNat 2147483647)), (3, (.ofNat 0), (.ofNat 69)), (4, (.ofNat 0), (.ofNat 69)), (5, (.ofNat 0), (.ofNat 8)), (6, (.negSucc 2147483647), (.ofNat 2147483647)), (7, (.negSucc 2147483647), (.ofNat 2147483647)), (8, (.negSucc 2147483647), (.ofNat 2147483647)), (9, (.negSucc 2147483647), (.ofNat 2147483647)), (10, (.negSucc 2147483647), (.ofNat 2147483647)), (11, (.negSucc 2147483647), (.ofNat 2147483647)), (12, (.negSucc 2147483647), (.ofNat 2147483647)), (13, (.ofNat 1), (.ofNat 4)), (14, (.ofNat 0), (.ofNat 60)), (15, (.ofNat 0), (.ofNat 8)), (16, (.ofNat 0), (.ofNat 6)), (17, (.ofNat 0), (.ofNat 8)), (18, (.ofNat 0), (.ofNat 60)), (19, (.ofNat 0), (.ofNat 60)), (20, (.ofNat 0), (.ofNat 10)), (21, (.negSucc 2147483647), (.ofNat 2147483647)), (22, (.ofNat 0), (.ofNat 1)), (23, (.ofNat 0), (.ofNat 1)), (24, (.ofNat 0), (.ofNat 1)), (25, (.ofNat 0), (.ofNat 1))], [((.ofNat 1), [(22, (.negSucc 0)), (23, (.negSucc 0)), (24, (.negSucc 0)), (25, (.negSucc 0))])], [.inr (.inl (some 0)), .inl (false, ((.ofNat 200), [])), .inl (false, ((.ofNat 1), [])), .inl (false, ((.ofNat 10), [])), .inl (false, ((.ofNat 0), [(0, (.ofNat 1))])), .inl (false, ((.ofNat 0), [(1, (.ofNat 1))])), .inl (false, ((.ofNat 0), [(2, (.ofNat 1))]))], [zc628,
    zc629,
    zc59,
    zc630,
    zc61,
    zc62,
    zc63,
    .inr (1, .inr (.inl 70)),
    .inr (1, .inr (.inl 8)),
    zc30,
    zc31,
    zc32,
    zc33,
    zc34,
    .inr (1, .inr (.inl 4))], [(1, [1], []), (2, [1], [])]),
  [((36, [], [], [.inl (false, ((.ofNat 1), [(14, (.ofNat 1))]))], [zc628,
    zc631,
    zc59,
    zc630,
    zc61,
    zc62,
    zc63,
    .inr (1, .inr (.inl 70)),
    .inr (1, .inr (.inl 8)),
    zc30,
    zc31,
    zc32,
    zc33,
    zc34,
    .inr (1, .inr (.inl 4))], [(1, [1], []), (2, [1], [])]), 0, 0)])
noncomputable def c148_10_e : List Ct := []
noncomputable def c148_10_pts : List PE := []
set_option maxRecDepth 100000 in
theorem c148_10_k : enCtF c148_10 c148_10_e (c148_10_pts ++ []) (some (14, 0, 61)) ((hOr (hOpen 12 307 1) (hClose 53 307 1)), noM, 0, 9007199254745088, 36) 3000 = true := by decide +kernel
set_option maxRecDepth 100000 in
theorem c148_10_v : ValidC PPk c148_10 := ct_ok fpk ⟨(hOr_ok (hOpen_ok 12 307 1) (hClose_ok 53 307 1)), noM_ok⟩ (d := 0) (ext := []) (pts := c148_10_pts) (env := c148_10_e) rfl (fun _ h => (by cases h)) ext_nil (fun q h => (by cases h; exact Nat.le_of_ble_eq_true rfl)) (enF c148_10_k) (fun _ h => (by cases h))

def zc632 : AC := .inl (12, [.inr (.inl (some 1)), .inr (.inl (some 2)), .inr (.inl (some 3)), .inl (false, ((.ofNat 0), [(4, (.ofNat 1))])), .inr (.inl (some 4)), .inr (.inl (some 5)), .inl (false, ((.ofNat 0), [(5, (.ofNat 1))])), .inr (.inl (some 6)), .inr (.inl (some 7)), .inl (false, ((.ofNat 0), [(6, (.ofNat 1))])), .inr (.inl (some 8)), .inl (false, ((.ofNat 0), [(7, (.ofNat 1))])), .inr (.inl (some 9)), .inr (.inl (some 10)), .inr (.inl (some 11)), .inr (.inl (some 12)), .inl (false, ((.ofNat 0), [(8, (.ofNat 1))])), .inl (false, ((.ofNat 0), [(9, (.ofNat 1))])), .inl (false, ((.ofNat 0), [(10, (.ofNat 1))])), .inr (.inl (some 13)), .inl (false, ((.ofNat 0), [(11, (.ofNat 1))])), .inl (false, ((.ofNat 0), [(12, (.ofNat 1))])), .inl (false, ((.ofNat 0), [(13, (.ofNat 1))])), .inr (.inl (some 14))])
def zc633 : AC := .inr (0, .inl [.inl ((.ofNat 0), [(14, (.ofNat 1))]), .inl ((.ofNat 0), [(15, (.ofNat 1))]), .inl ((.ofNat 0), [(16, (.ofNat 1))]), .inl ((.ofNat 0), [(17, (.ofNat 1))]), .inl ((.ofNat 0), [(18, (.ofNat 1))]), .inl ((.ofNat 0), [(19, (.ofNat 1))]), .inl ((.ofNat 0), [(20, (.ofNat 1))]), .inl ((.ofNat 0), [(21, (.ofNat 1))]), .inr (5, (.negSucc 2147483647), (.ofNat 2147483647)), .inr (1, (.ofNat 0), (.ofNat 3)), .inl ((.ofNat 0), [(22, (.ofNat 1))]), .inr (2, (.negSucc 2147483647), (.ofNat 2147483647)), .inr (1, (.ofNat 1), (.ofNat 1000)), .inr (1, (.ofNat 0), (.ofNat 50)), .inr (23, (.negSucc 2147483647), (.ofNat 2147483647)), .inl ((.ofNat 0), [(23, (.ofNat 1))]), .inr (39, (.negSucc 2147483647), (.ofNat 2147483647)), .inl ((.ofNat 0), [(24, (.ofNat 1))]), .inr (39, (.negSucc 2147483647), (.ofNat 2147483647)), .inl ((.ofNat 0), [(25, (.ofNat 1))]), .inr (39, (.negSucc 2147483647), (.ofNat 2147483647)), .inl ((.ofNat 0), [(26, (.ofNat 1))]), .inr (517, (.negSucc 2147483647), (.ofNat 2147483647)), .inr (12, (.ofNat 0), (.ofNat 60)), .inr (1, (.ofNat 0), (.ofNat 5)), .inr (1, (.ofNat 0), (.ofNat 39)), .inr (1, (.ofNat 0), (.ofNat 40)), .inr (1, (.ofNat 0), (.ofNat 5)), .inr (1, (.ofNat 0), (.ofNat 39)), .inr (1, (.ofNat 0), (.ofNat 40)), .inr (1, (.ofNat 0), (.ofNat 5)), .inr (1, (.ofNat 0), (.ofNat 39)), .inr (1, (.ofNat 0), (.ofNat 40)), .inr (1, (.ofNat 0), (.ofNat 5)), .inr (1, (.ofNat 0), (.ofNat 39)), .inr (1, (.ofNat 0), (.ofNat 40)), .inr (1, (.ofNat 0), (.ofNat 5)), .inr (1, (.ofNat 0), (.ofNat 39)), .inr (1, (.ofNat 0), (.ofNat 40)), .inr (1, (.ofNat 0), (.ofNat 5)), .inr (1, (.ofNat 0), (.ofNat 39)), .inr (1, (.ofNat 0), (.ofNat 40)), .inr (1, (.ofNat 0), (.ofNat 5)), .inr (1, (.ofNat 0), (.ofNat 39)), .inr (1, (.ofNat 0), (.ofNat 40)), .inr (1, (.ofNat 0), (.ofNat 5)), .inr (1, (.ofNat 0), (.ofNat 39)), .inr (1, (.ofNat 0), (.ofNat 40)), .inr (76, (.negSucc 2147483647), (.ofNat 2147483647)), .inr (2, (.negSucc 2147483647), (.ofNat 2147483647)), .inr (1, (.ofNat 0), (.ofNat 5)), .inr (2, (.negSucc 2147483647), (.ofNat 2147483647)), .inr (2, (.negSucc 2147483647), (.ofNat 2147483647)), .inr (1, (.ofNat 0), (.ofNat 5)), .inr (2, (.negSucc 2147483647), (.ofNat 2147483647)), .inr (2, (.negSucc 2147483647), (.ofNat 2147483647)), .inr (1, (.ofNat 0), (.ofNat 5)), .inr (2, (.negSucc 2147483647), (.ofNat 2147483647)), .inr (2, (.negSucc 2147483647), (.ofNat 2147483647)), .inr (1, (.ofNat 0), (.ofNat 5)), .inr (2, (.negSucc 2147483647), (.ofNat 2147483647)), .inr (2, (.negSucc 2147483647), (.ofNat 2147483647)), .inr (1, (.ofNat 0), (.ofNat 5)), .inr (2, (.negSucc 2147483647), (.ofNat 2147483647)), .inr (2, (.negSucc 2147483647), (.ofNat 2147483647)), .inr (1, (.ofNat 0), (.ofNat 5)), .inr (2, (.negSucc 2147483647), (.ofNat 2147483647)), .inr (2, (.negSucc 2147483647), (.ofNat 2147483647)), .inr (1, (.ofNat 0), (.ofNat 5)), .inr (2, (.negSucc 2147483647), (.ofNat 2147483647)), .inr (2, (.negSucc 2147483647), (.ofNat 2147483647)), .inr (1, (.ofNat 0), (.ofNat 5)), .inr (2, (.negSucc 2147483647), (.ofNat 2147483647)), .inr (60, (.ofNat 0), (.ofNat 127)), .inr (18, (.negSucc 2147483647), (.ofNat 2147483647))])
def zc634 : AC := .inr (103, .inl [.inl ((.ofNat 0), [(28, (.ofNat 1))])])
noncomputable def c146_0 : Ct := (146, 3, (37, [(0, (.negSucc 2147483647), (.ofNat 2147483647)), (1, (.negSucc 2147483647), (.ofNat 2147483647)), (2, (.negSucc 2147483647), (.ofNat 2147483647)), (3, (.negSucc 2147483647), (.ofNat 2147483647)), (4, (.ofNat 0), (.ofNat 69)), (5, (.ofNat 0), (.ofNat 69)), (6, (.ofNat 0), (.ofNat 8)), (7, (.negSucc 2147483647), (.ofNat 2147483647)), (8, (.negSucc 2147483647), (.ofNat 2147483647)), (9, (.negSucc 2147483647), (.ofNat 2147483647)), (10, (.negSucc 2147483647), (.ofNat 2147483647)), (11, (.negSucc 2147483647), (.ofNat 2147483647)), (12, (.negSucc 2147483647), (.ofNat 2147483647)), (13, (.negSucc 2147483647), (.ofNat 2147483647)), (14, (.ofNat 1), (.ofNat 4)), (15, (.ofNat 0), (.ofNat 60)), (16, (.ofNat 0), (.ofNat 8)), (17, (.ofNat 0), (.ofNat 6)), (18, (.ofNat 0), (.ofNat 8)), (19, (.ofNat 0), (.ofNat 60)), (20, (.ofNat 0), (.ofNat 60)), (21, (.ofNat 0), (.ofNat 10)), (22, (.negSucc 2147483647), (.ofNat 2147483647)), (23, (.ofNat 0), (.ofNat 1)), (24, (.ofNat 0), (.ofNat 1)), (25, (.ofNat 0), (.ofNat 1)), (26, (.ofNat 0), (.ofNat 1))], [((.ofNat 1), [(23, (.negSucc 0)), (24, (.negSucc 0)), (25, (.negSucc 0)), (26, (.negSucc 0))])], [.inr (.inl (some 0)), .inl (false, ((.ofNat 0), [(0, (.ofNat 1))])), .inl (false, ((.ofNat 0), [(1, (.ofNat 1))])), .inl (false, ((.ofNat 0), [(2, (.ofNat 1))])), .inl (false, ((.ofNat 0), [(3, (.ofNat 1))]))], [zc632,
    zc633,
    zc60,
    zc634,
    zc62,
    zc63,
    zc30,
    .inr (1, .inr (.inl 70)),
    .inr (1, .inr (.inl 8)),
    zc31,
    zc32,
    zc33,
    zc34,
    zc101,
    .inr (1, .inr (.inl 4))], [(1, [1], []), (2, [1], [])]),
  [((39, [(37, (.negSucc 3), (.ofNat 59)), (38, (.ofNat 0), (.ofNat 60))], [], [.inl (false, ((.ofNat 0), [(37, (.ofNat 1))]))], [zc632,
    .inr (0, .inl [.inl ((.ofNat 0), [(14, (.ofNat 1))]), .inl ((.ofNat 0), [(38, (.ofNat 1))]), .inl ((.ofNat 0), [(16, (.ofNat 1))]), .inl ((.ofNat 0), [(17, (.ofNat 1))]), .inl ((.ofNat 0), [(18, (.ofNat 1))]), .inl ((.ofNat 0), [(19, (.ofNat 1))]), .inl ((.ofNat 0), [(20, (.ofNat 1))]), .inl ((.ofNat 0), [(21, (.ofNat 1))]), .inr (5, (.negSucc 2147483647), (.ofNat 2147483647)), .inr (1, (.ofNat 0), (.ofNat 3)), .inl ((.ofNat 0), [(22, (.ofNat 1))]), .inr (2, (.negSucc 2147483647), (.ofNat 2147483647)), .inr (1, (.ofNat 1), (.ofNat 1000)), .inr (1, (.ofNat 0), (.ofNat 50)), .inr (23, (.negSucc 2147483647), (.ofNat 2147483647)), .inl ((.ofNat 0), [(23, (.ofNat 1))]), .inr (39, (.negSucc 2147483647), (.ofNat 2147483647)), .inl ((.ofNat 0), [(24, (.ofNat 1))]), .inr (39, (.negSucc 2147483647), (.ofNat 2147483647)), .inl ((.ofNat 0), [(25, (.ofNat 1))]), .inr (39, (.negSucc 2147483647), (.ofNat 2147483647)), .inl ((.ofNat 0), [(26, (.ofNat 1))]), .inr (517, (.negSucc 2147483647), (.ofNat 2147483647)), .inr (12, (.ofNat 0), (.ofNat 60)), .inr (1, (.ofNat 0), (.ofNat 5)), .inr (1, (.ofNat 0), (.ofNat 39)), .inr (1, (.ofNat 0), (.ofNat 40)), .inr (1, (.ofNat 0), (.ofNat 5)), .inr (1, (.ofNat 0), (.ofNat 39)), .inr (1, (.ofNat 0), (.ofNat 40)), .inr (1, (.ofNat 0), (.ofNat 5)), .inr (1, (.ofNat 0), (.ofNat 39)), .inr (1, (.ofNat 0), (.ofNat 40)), .inr (1, (.ofNat 0), (.ofNat 5)), .inr (1, (.ofNat 0), (.ofNat 39)), .inr (1, (.ofNat 0), (.ofNat 40)), .inr (1, (.ofNat 0), (.ofNat 5)), .inr (1, (.ofNat 0), (.ofNat 39)), .inr (1, (.ofNat 0), (.ofNat 40)), .inr (1, (.ofNat 0), (.ofNat 5)), .inr (1, (.ofNat 0), (.ofNat 39)), .inr (1, (.ofNat 0), (.ofNat 40)), .inr (1, (.ofNat 0), (.ofNat 5)), .inr (1, (.ofNat 0), (.ofNat 39)), .inr (1, (.ofNat 0), (.ofNat 40)), .inr (1, (.ofNat 0), (.ofNat 5)), .inr (1, (.ofNat 0), (.ofNat 39)), .inr (1, (.ofNat 0), (.ofNat 40)), .inr (78, (.negSucc 2147483647), (.ofNat 2147483647)), .inr (1, (.ofNat 0), (.ofNat 5)), .inr (4, (.negSucc 2147483647), (.ofNat 2147483647)), .inr (1, (.ofNat 0), (.ofNat 5)), .inr (4, (.negSucc 2147483647), (.ofNat 2147483647)), .inr (1, (.ofNat 0), (.ofNat 5)), .inr (4, (.negSucc 2147483647), (.ofNat 2147483647)), .inr (1, (.ofNat 0), (.ofNat 5)), .inr (4, (.negSucc 2147483647), (.ofNat 2147483647)), .inr (1, (.ofNat 0), (.ofNat 5)), .inr (4, (.negSucc 2147483647), (.ofNat 2147483647)), .inr (1, (.ofNat 0), (.ofNat 5)), .inr (4, (.negSucc 2147483647), (.ofNat 2147483647)), .inr (1, (.ofNat 0), (.ofNat 5)), .inr (4, (.negSucc 2147483647), (.ofNat 2147483647)), .inr (1, (.ofNat 0), (.ofNat 5)), .inr (2, (.negSucc 2147483647), (.ofNat 2147483647)), .inr (60, (.ofNat 0), (.ofNat 127)), .inr (18, (.negSucc 2147483647), (.ofNat 2147483647))]),
    zc60,
    zc634,
    zc62,
    zc63,
    zc30,
    .inr (1, .inr (.inl 70)),
    .inr (1, .inr (.inl 8)),
    zc31,
    zc32,
    zc33,
    zc34,
    zc101,
    .inr (1, .inr (.inl 4))], [(1, [1], []), (2, [1], [])]), 0, 0)])
noncomputable def c146_0_e : List Ct := [c147_0, c148_0, c148_1, c148_2, c148_3, c148_4, c148_5, c148_6, c148_7, c148_8, c148_9, c148_10]
noncomputable def c146_0_pts : List PE := []
set_option maxRecDepth 100000 in
theorem c146_0_k : enCtF c146_0 c146_0_e (c146_0_pts ++ []) (none) noH 3000 = true := by decide +kernel
set_option maxRecDepth 100000 in
theorem c146_0_v : ValidC PPk c146_0 := ct_ok fpk noH_ok (d := 2) (ext := []) (pts := c146_0_pts) (env := c146_0_e) rfl (List.forall_mem_cons.mpr ⟨⟨c147_0_v, Nat.le_of_ble_eq_true rfl⟩, List.forall_mem_cons.mpr ⟨⟨c148_0_v, Nat.le_of_ble_eq_true rfl⟩, List.forall_mem_cons.mpr ⟨⟨c148_1_v, Nat.le_of_ble_eq_true rfl⟩, List.forall_mem_cons.mpr ⟨⟨c148_2_v, Nat.le_of_ble_eq_true rfl⟩, List.forall_mem_cons.mpr ⟨⟨c148_3_v, Nat.le_of_ble_eq_true rfl⟩, List.forall_mem_cons.mpr ⟨⟨c148_4_v, Nat.le_of_ble_eq_true rfl⟩, List.forall_mem_cons.mpr ⟨⟨c148_5_v, Nat.le_of_ble_eq_true rfl⟩, List.forall_mem_cons.mpr ⟨⟨c148_6_v, Nat.le_of_ble_eq_true rfl⟩, List.forall_mem_cons.mpr ⟨⟨c148_7_v, Nat.le_of_ble_eq_true rfl⟩, List.forall_mem_cons.mpr ⟨⟨c148_8_v, Nat.le_of_ble_eq_true rfl⟩, List.forall_mem_cons.mpr ⟨⟨c148_9_v, Nat.le_of_ble_eq_true rfl⟩, List.forall_mem_cons.mpr ⟨⟨c148_10_v, Nat.le_of_ble_eq_true rfl⟩, fun _ h => (by cases h)⟩⟩⟩⟩⟩⟩⟩⟩⟩⟩⟩⟩) ext_nil (fun q h => (by cases h)) (enF c146_0_k) (fun _ h => (by cases h))

noncomputable def c149_0 : Ct := (149, 2, (36, [(0, (.negSucc 2147483647), (.ofNat 2147483647)), (1, (.negSucc 2147483647), (.ofNat 2147483647)), (2, (.negSucc 2147483647), (.ofNat 2147483647)), (3, (.ofNat 0), (.ofNat 69)), (4, (.ofNat 0), (.ofNat 69)), (5, (.ofNat 0), (.ofNat 8)), (6, (.negSucc 2147483647), (.ofNat 2147483647)), (7, (.negSucc 2147483647), (.ofNat 2147483647)), (8, (.negSucc 2147483647), (.ofNat 2147483647)), (9, (.negSucc 2147483647), (.ofNat 2147483647)), (10, (.negSucc 2147483647), (.ofNat 2147483647)), (11, (.negSucc 2147483647), (.ofNat 2147483647)), (12, (.negSucc 2147483647), (.ofNat 2147483647)), (13, (.ofNat 1), (.ofNat 4)), (14, (.ofNat 0), (.ofNat 60)), (15, (.ofNat 0), (.ofNat 8)), (16, (.ofNat 0), (.ofNat 6)), (17, (.ofNat 0), (.ofNat 8)), (18, (.ofNat 0), (.ofNat 60)), (19, (.ofNat 0), (.ofNat 60)), (20, (.ofNat 0), (.ofNat 10)), (21, (.negSucc 2147483647), (.ofNat 2147483647)), (22, (.ofNat 0), (.ofNat 1)), (23, (.ofNat 0), (.ofNat 1)), (24, (.ofNat 0), (.ofNat 1)), (25, (.ofNat 0), (.ofNat 1))], [((.ofNat 1), [(22, (.negSucc 0)), (23, (.negSucc 0)), (24, (.negSucc 0)), (25, (.negSucc 0))])], [.inr (.inl (some 0)), .inl (false, ((.ofNat 0), [(0, (.ofNat 1))])), .inl (false, ((.ofNat 0), [(1, (.ofNat 1))])), .inl (false, ((.ofNat 0), [(2, (.ofNat 1))]))], [zc628,
    zc629,
    zc59,
    zc630,
    zc61,
    zc62,
    zc63,
    .inr (1, .inr (.inl 70)),
    .inr (1, .inr (.inl 8)),
    zc30,
    zc31,
    zc32,
    zc33,
    zc34,
    .inr (1, .inr (.inl 4))], [(1, [1], []), (2, [1], [])]),
  [((37, [(36, (.negSucc 1), (.ofNat 1))], [], [.inl (false, ((.ofNat 0), [(36, (.ofNat 1))]))], [zc628,
    zc629,
    zc59,
    zc630,
    zc61,
    zc62,
    zc63,
    .inr (1, .inr (.inl 70)),
    .inr (1, .inr (.inl 8)),
    zc30,
    zc31,
    zc32,
    zc33,
    zc34,
    .inr (1, .inr (.inl 4))], [(1, [1], []), (2, [1], [])]), 0, 0)])
noncomputable def c149_0_e : List Ct := [c145_0]
noncomputable def c149_0_pts : List PE := []
set_option maxRecDepth 100000 in
theorem c149_0_k : enCtF c149_0 c149_0_e (c149_0_pts ++ []) (none) noH 3000 = true := by decide +kernel
set_option maxRecDepth 100000 in
theorem c149_0_v : ValidC PPk c149_0 := ct_ok fpk noH_ok (d := 1) (ext := []) (pts := c149_0_pts) (env := c149_0_e) rfl (List.forall_mem_cons.mpr ⟨⟨c145_0_v, Nat.le_of_ble_eq_true rfl⟩, fun _ h => (by cases h)⟩) ext_nil (fun q h => (by cases h)) (enF c149_0_k) (fun _ h => (by cases h))

noncomputable def c150_0 : Ct := (150, 2, (36, [(0, (.negSucc 2147483647), (.ofNat 2147483647)), (1, (.negSucc 2147483647), (.ofNat 2147483647)), (2, (.negSucc 2147483647), (.ofNat 2147483647)), (3, (.ofNat 0), (.ofNat 69)), (4, (.ofNat 0), (.ofNat 69)), (5, (.ofNat 0), (.ofNat 8)), (6, (.negSucc 2147483647), (.ofNat 2147483647)), (7, (.negSucc 2147483647), (.ofNat 2147483647)), (8, (.negSucc 2147483647), (.ofNat 2147483647)), (9, (.negSucc 2147483647), (.ofNat 2147483647)), (10, (.negSucc 2147483647), (.ofNat 2147483647)), (11, (.negSucc 2147483647), (.ofNat 2147483647)), (12, (.negSucc 2147483647), (.ofNat 2147483647)), (13, (.ofNat 1), (.ofNat 4)), (14, (.ofNat 0), (.ofNat 60)), (15, (.ofNat 0), (.ofNat 8)), (16, (.ofNat 0), (.ofNat 6)), (17, (.ofNat 0), (.ofNat 8)), (18, (.ofNat 0), (.ofNat 60)), (19, (.ofNat 0), (.ofNat 60)), (20, (.ofNat 0), (.ofNat 10)), (21, (.negSucc 2147483647), (.ofNat 2147483647)), (22, (.ofNat 0), (.ofNat 1)), (23, (.ofNat 0), (.ofNat 1)), (24, (.ofNat 0), (.ofNat 1)), (25, (.ofNat 0), (.ofNat 1))], [((.ofNat 1), [(22, (.negSucc 0)), (23, (.negSucc 0)), (24, (.negSucc 0)), (25, (.negSucc 0))])], [.inr (.inl (some 0)), .inl (false, ((.ofNat 0), [(0, (.ofNat 1))])), .inl (false, ((.ofNat 0), [(1, (.ofNat 1))])), .inl (false, ((.ofNat 0), [(2, (.ofNat 1))]))], [zc628,
    zc629,
    zc59,
    zc630,
    zc61,
    zc62,
    zc63,
    .inr (1, .inr (.inl 70)),
    .inr (1, .inr (.inl 8)),
    zc30,
    zc31,
    zc32,
    zc33,
    zc34,
    .inr (1, .inr (.inl 4))], [(1, [1], []), (2, [1], [])]),
  [((38, [(36, (.negSucc 3), (.ofNat 7)), (37, (.ofNat 0), (.ofNat 8))], [], [.inl (false, ((.ofNat 0), [(36, (.ofNat 1))]))], [zc628,
    .inr (0, .inl [.inl ((.ofNat 0), [(13, (.ofNat 1))]), .inl ((.ofNat 0), [(14, (.ofNat 1))]), .inl ((.ofNat 0), [(37, (.ofNat 1))]), .inl ((.ofNat 0), [(16, (.ofNat 1))]), .inl ((.ofNat 0), [(17, (.ofNat 1))]), .inl ((.ofNat 0), [(18, (.ofNat 1))]), .inl ((.ofNat 0), [(19, (.ofNat 1))]), .inl ((.ofNat 0), [(20, (.ofNat 1))]), .inr (5, (.negSucc 2147483647), (.ofNat 2147483647)), .inr (1, (.ofNat 0), (.ofNat 3)), .inl ((.ofNat 0), [(21, (.ofNat 1))]), .inr (2, (.negSucc 2147483647), (.ofNat 2147483647)), .inr (1, (.ofNat 1), (.ofNat 1000)), .inr (1, (.ofNat 0), (.ofNat 50)), .inr (23, (.negSucc 2147483647), (.ofNat 2147483647)), .inl ((.ofNat 0), [(22, (.ofNat 1))]), .inr (39, (.negSucc 2147483647), (.ofNat 2147483647)), .inl ((.ofNat 0), [(23, (.ofNat 1))]), .inr (39, (.negSucc 2147483647), (.ofNat 2147483647)), .inl ((.ofNat 0), [(24, (.ofNat 1))]), .inr (39, (.negSucc 2147483647), (.ofNat 2147483647)), .inl ((.ofNat 0), [(25, (.ofNat 1))]), .inr (517, (.negSucc 2147483647), (.ofNat 2147483647)), .inr (12, (.ofNat 0), (.ofNat 60)), .inr (1, (.ofNat 0), (.ofNat 5)), .inr (1, (.ofNat 0), (.ofNat 39)), .inr (1, (.ofNat 0), (.ofNat 40)), .inr (1, (.ofNat 0), (.ofNat 5)), .inr (1, (.ofNat 0), (.ofNat 39)), .inr (1, (.ofNat 0), (.ofNat 40)), .inr (1, (.ofNat 0), (.ofNat 5)), .inr (1, (.ofNat 0), (.ofNat 39)), .inr (1, (.ofNat 0), (.ofNat 40)), .inr (1, (.ofNat 0), (.ofNat 5)), .inr (1, (.ofNat 0), (.ofNat 39)), .inr (1, (.ofNat 0), (.ofNat 40)), .inr (1, (.ofNat 0), (.ofNat 5)), .inr (1, (.ofNat 0), (.ofNat 39)), .inr (1, (.ofNat 0), (.ofNat 40)), .inr (1, (.ofNat 0), (.ofNat 5)), .inr (1, (.ofNat 0), (.ofNat 39)), .inr (1, (.ofNat 0), (.ofNat 40)), .inr (1, (.ofNat 0), (.ofNat 5)), .inr (1, (.ofNat 0), (.ofNat 39)), .inr (1, (.ofNat 0), (.ofNat 40)), .inr (1, (.ofNat 0), (.ofNat 5)), .inr (1, (.ofNat 0), (.ofNat 39)), .inr (1, (.ofNat 0), (.ofNat 40)), .inr (76, (.negSucc 2147483647), (.ofNat 2147483647)), .inr (2, (.negSucc 2147483647), (.ofNat 2147483647)), .inr (1, (.ofNat 0), (.ofNat 5)), .inr (2, (.negSucc 2147483647), (.ofNat 2147483647)), .inr (2, (.negSucc 2147483647), (.ofNat 2147483647)), .inr (1, (.ofNat 0), (.ofNat 5)), .inr (2, (.negSucc 2147483647), (.ofNat 2147483647)), .inr (2, (.negSucc 2147483647), (.ofNat 2147483647)), .inr (1, (.ofNat 0), (.ofNat 5)), .inr (2, (.negSucc 2147483647), (.ofNat 2147483647)), .inr (2, (.negSucc 2147483647), (.ofNat 2147483647)), .inr (1, (.ofNat 0), (.ofNat 5)), .inr (2, (.negSucc 2147483647), (.ofNat 2147483647)), .inr (2, (.negSucc 2147483647), (.ofNat 2147483647)), .inr (1, (.ofNat 0), (.ofNat 5)), .inr (2, (.negSucc 2147483647), (.ofNat 2147483647)), .inr (2, (.negSucc 2147483647), (.ofNat 2147483647)), .inr (1, (.ofNat 0), (.ofNat 5)), .inr (2, (.negSucc 2147483647), (.ofNat 2147483647)), .inr (2, (.negSucc 2147483647), (.ofNat 2147483647)), .inr (1, (.ofNat 0), (.ofNat 5)), .inr (2, (.negSucc 2147483647), (.ofNat 2147483647)), .inr (2, (.negSucc 2147483647), (.ofNat 2147483647)), .inr (1, (.ofNat 0), (.ofNat 5)), .inr (2, (.negSucc 2147483647), (.ofNat 2147483647)), .inr (60, (.ofNat 0), (.ofNat 127)), .inr (18, (.negSucc 2147483647), (.ofNat 2147483647))]),
    zc59,
    zc630,
    zc61,
    zc62,
    zc63,
    .inr (1, .inr (.inl 70)),
    .inr (1, .inr (.inl 8)),
    zc30,
    zc31,
    zc32,
    zc33,
    zc34,
    .inr (1, .inr (.inl 4))], [(1, [1], []), (2, [1], [])]), 0, 0)])
noncomputable def c150_0_e : List Ct := [c145_0]
noncomputable def c150_0_p0 : PE := (46, [0, 1, 2, 3, 4], (36, [(0, (.ofNat 0), (.ofNat 5)), (1, (.ofNat 0), (.ofNat 39)), (2, (.ofNat 1), (.ofNat 40)), (3, (.ofNat 0), (.ofNat 69)), (4, (.ofNat 0), (.ofNat 69)), (5, (.ofNat 0), (.ofNat 8)), (6, (.negSucc 2147483647), (.ofNat 2147483647)), (7, (.negSucc 2147483647), (.ofNat 2147483647)), (8, (.negSucc 2147483647), (.ofNat 2147483647)), (9, (.negSucc 2147483647), (.ofNat 2147483647)), (10, (.negSucc 2147483647), (.ofNat 2147483647)), (11, (.negSucc 2147483647), (.ofNat 2147483647)), (12, (.negSucc 2147483647), (.ofNat 2147483647)), (13, (.ofNat 1), (.ofNat 4)), (14, (.ofNat 0), (.ofNat 60)), (15, (.ofNat 0), (.ofNat 0)), (16, (.ofNat 0), (.ofNat 6)), (17, (.ofNat 0), (.ofNat 8)), (18, (.ofNat 0), (.ofNat 60)), (19, (.ofNat 0), (.ofNat 60)), (20, (.ofNat 0), (.ofNat 10)), (21, (.negSucc 2147483647), (.ofNat 2147483647)), (22, (.ofNat 0), (.ofNat 1)), (23, (.ofNat 0), (.ofNat 1)), (24, (.ofNat 0), (.ofNat 1)), (25, (.ofNat 0), (.ofNat 1))], [((.negSucc 39), [(1, (.ofNat 1)), (2, (.ofNat 1))]), ((.ofNat 1), [(22, (.negSucc 0)), (23, (.negSucc 0)), (24, (.negSucc 0)), (25, (.negSucc 0))])], [.inr (.inl (some 0)), .inl (false, ((.ofNat 0), [(0, (.ofNat 1))])), .inl (false, ((.ofNat 0), [(1, (.ofNat 1))])), .inl (false, ((.ofNat 0), [(2, (.ofNat 1))])), .inl (false, ((.ofNat 0), []))], [zc628,
    zc629,
    zc59,
    zc630,
    zc61,
    zc62,
    zc63,
    .inr (1, .inr (.inl 70)),
    .inr (1, .inr (.inl 8)),
    zc30,
    zc31,
    zc32,
    zc33,
    zc34,
    .inr (1, .inr (.inl 4))], [(1, [1], []), (2, [1], [])]), symsL 36 0, some ((.ofNat 17), []), 0, 0)
noncomputable def c150_0_p1 : PE := (46, [0, 1, 2, 3, 4], (36, [(0, (.ofNat 0), (.ofNat 5)), (1, (.ofNat 0), (.ofNat 39)), (2, (.ofNat 1), (.ofNat 40)), (3, (.ofNat 0), (.ofNat 69)), (4, (.ofNat 0), (.ofNat 69)), (5, (.ofNat 0), (.ofNat 8)), (6, (.negSucc 2147483647), (.ofNat 2147483647)), (7, (.negSucc 2147483647), (.ofNat 2147483647)), (8, (.negSucc 2147483647), (.ofNat 2147483647)), (9, (.negSucc 2147483647), (.ofNat 2147483647)), (10, (.negSucc 2147483647), (.ofNat 2147483647)), (11, (.negSucc 2147483647), (.ofNat 2147483647)), (12, (.negSucc 2147483647), (.ofNat 2147483647)), (13, (.ofNat 1), (.ofNat 4)), (14, (.ofNat 0), (.ofNat 60)), (15, (.ofNat 1), (.ofNat 1)), (16, (.ofNat 0), (.ofNat 6)), (17, (.ofNat 0), (.ofNat 8)), (18, (.ofNat 0), (.ofNat 60)), (19, (.ofNat 0), (.ofNat 60)), (20, (.ofNat 0), (.ofNat 10)), (21, (.negSucc 2147483647), (.ofNat 2147483647)), (22, (.ofNat 0), (.ofNat 1)), (23, (.ofNat 0), (.ofNat 1)), (24, (.ofNat 0), (.ofNat 1)), (25, (.ofNat 0), (.ofNat 1))], [((.negSucc 39), [(1, (.ofNat 1)), (2, (.ofNat 1))]), ((.ofNat 1), [(22, (.negSucc 0)), (23, (.negSucc 0)), (24, (.negSucc 0)), (25, (.negSucc 0))])], [.inr (.inl (some 0)), .inl (false, ((.ofNat 0), [(0, (.ofNat 1))])), .inl (false, ((.ofNat 0), [(1, (.ofNat 1))])), .inl (false, ((.ofNat 0), [(2, (.ofNat 1))])), .inl (false, ((.ofNat 0), []))], [zc628,
    zc629,
    zc59,
    zc630,
    zc61,
    zc62,
    zc63,
    .inr (1, .inr (.inl 70)),
    .inr (1, .inr (.inl 8)),
    zc30,
    zc31,
    zc32,
    zc33,
    zc34,
    .inr (1, .inr (.inl 4))], [(1, [1], []), (2, [1], [])]), symsL 36 0, some ((.ofNat 17), []), 0, 0)
noncomputable def c150_0_p2 : PE := (46, [0, 1, 2, 3, 4, 5], (36, [(0, (.ofNat 0), (.ofNat 5)), (1, (.ofNat 0), (.ofNat 39)), (2, (.ofNat 1), (.ofNat 40)), (3, (.ofNat 0), (.ofNat 69)), (4, (.ofNat 0), (.ofNat 69)), (5, (.ofNat 0), (.ofNat 8)), (6, (.negSucc 2147483647), (.ofNat 2147483647)), (7, (.negSucc 2147483647), (.ofNat 2147483647)), (8, (.negSucc 2147483647), (.ofNat 2147483647)), (9, (.negSucc 2147483647), (.ofNat 2147483647)), (10, (.negSucc 2147483647), (.ofNat 2147483647)), (11, (.negSucc 2147483647), (.ofNat 2147483647)), (12, (.negSucc 2147483647), (.ofNat 2147483647)), (13, (.ofNat 1), (.ofNat 4)), (14, (.ofNat 0), (.ofNat 60)), (15, (.ofNat 1), (.ofNat 1)), (16, (.ofNat 0), (.ofNat 6)), (17, (.ofNat 0), (.ofNat 8)), (18, (.ofNat 0), (.ofNat 60)), (19, (.ofNat 0), (.ofNat 60)), (20, (.ofNat 0), (.ofNat 10)), (21, (.negSucc 2147483647), (.ofNat 2147483647)), (22, (.ofNat 0), (.ofNat 1)), (23, (.ofNat 0), (.ofNat 1)), (24, (.ofNat 0), (.ofNat 1)), (25, (.ofNat 0), (.ofNat 1))], [((.negSucc 39), [(1, (.ofNat 1)), (2, (.ofNat 1))]), ((.ofNat 1), [(22, (.negSucc 0)), (23, (.negSucc 0)), (24, (.negSucc 0)), (25, (.negSucc 0))])], [.inr (.inl (some 0)), .inl (false, ((.ofNat 0), [(0, (.ofNat 1))])), .inl (false, ((.ofNat 0), [(1, (.ofNat 1))])), .inl (false, ((.ofNat 0), [(2, (.ofNat 1))])), .inl (false, ((.ofNat 1), [])), .inl (false, ((.ofNat 692), []))], [zc628,
    zc629,
    zc59,
    zc630,
    zc61,
    zc62,
    zc63,
    .inr (1, .inr (.inl 70)),
    .inr (1, .inr (.inl 8)),
    zc30,
    zc31,
    zc32,
    zc33,
    zc34,
    .inr (1, .inr (.inl 4))], [(1, [1], []), (2, [1], [])]), symsL 36 0, some ((.ofNat 16), []), 0, 0)
noncomputable def c150_0_p3 : PE := (46, [0, 1, 2, 3, 4], (36, [(0, (.ofNat 0), (.ofNat 5)), (1, (.ofNat 0), (.ofNat 39)), (2, (.ofNat 1), (.ofNat 40)), (3, (.ofNat 0), (.ofNat 69)), (4, (.ofNat 0), (.ofNat 69)), (5, (.ofNat 0), (.ofNat 8)), (6, (.negSucc 2147483647), (.ofNat 2147483647)), (7, (.negSucc 2147483647), (.ofNat 2147483647)), (8, (.negSucc 2147483647), (.ofNat 2147483647)), (9, (.negSucc 2147483647), (.ofNat 2147483647)), (10, (.negSucc 2147483647), (.ofNat 2147483647)), (11, (.negSucc 2147483647), (.ofNat 2147483647)), (12, (.negSucc 2147483647), (.ofNat 2147483647)), (13, (.ofNat 1), (.ofNat 4)), (14, (.ofNat 0), (.ofNat 60)), (15, (.ofNat 2), (.ofNat 2)), (16, (.ofNat 0), (.ofNat 6)), (17, (.ofNat 0), (.ofNat 8)), (18, (.ofNat 0), (.ofNat 60)), (19, (.ofNat 0), (.ofNat 60)), (20, (.ofNat 0), (.ofNat 10)), (21, (.negSucc 2147483647), (.ofNat 2147483647)), (22, (.ofNat 0), (.ofNat 1)), (23, (.ofNat 0), (.ofNat 1)), (24, (.ofNat 0), (.ofNat 1)), (25, (.ofNat 0), (.ofNat 1))], [((.negSucc 39), [(1, (.ofNat 1)), (2, (.ofNat 1))]), ((.ofNat 1), [(22, (.negSucc 0)), (23, (.negSucc 0)), (24, (.negSucc 0)), (25, (.negSucc 0))])], [.inr (.inl (some 0)), .inl (false, ((.ofNat 0), [(0, (.ofNat 1))])), .inl (false, ((.ofNat 0), [(1, (.ofNat 1))])), .inl (false, ((.ofNat 0), [(2, (.ofNat 1))])), .inl (false, ((.ofNat 0), []))], [zc628,
    zc629,
    zc59,
    zc630,
    zc61,
    zc62,
    zc63,
    .inr (1, .inr (.inl 70)),
    .inr (1, .inr (.inl 8)),
    zc30,
    zc31,
    zc32,
    zc33,
    zc34,
    .inr (1, .inr (.inl 4))], [(1, [1], []), (2, [1], [])]), symsL 36 0, some ((.ofNat 17), []), 0, 0)
noncomputable def c150_0_p4 : PE := (46, [0, 1, 2, 3, 4, 5], (38, [(0, (.ofNat 0), (.ofNat 5)), (1, (.ofNat 0), (.ofNat 39)), (2, (.ofNat 1), (.ofNat 40)), (3, (.ofNat 0), (.ofNat 69)), (4, (.ofNat 0), (.ofNat 69)), (5, (.ofNat 0), (.ofNat 8)), (6, (.negSucc 2147483647), (.ofNat 2147483647)), (7, (.negSucc 2147483647), (.ofNat 2147483647)), (8, (.negSucc 2147483647), (.ofNat 2147483647)), (9, (.negSucc 2147483647), (.ofNat 2147483647)), (10, (.negSucc 2147483647), (.ofNat 2147483647)), (11, (.negSucc 2147483647), (.ofNat 2147483647)), (12, (.negSucc 2147483647), (.ofNat 2147483647)), (13, (.ofNat 1), (.ofNat 4)), (14, (.ofNat 0), (.ofNat 60)), (15, (.ofNat 2), (.ofNat 2)), (16, (.ofNat 0), (.ofNat 6)), (17, (.ofNat 0), (.ofNat 8)), (18, (.ofNat 0), (.ofNat 60)), (19, (.ofNat 0), (.ofNat 60)), (20, (.ofNat 0), (.ofNat 10)), (21, (.negSucc 2147483647), (.ofNat 2147483647)), (22, (.ofNat 0), (.ofNat 1)), (23, (.ofNat 0), (.ofNat 1)), (24, (.ofNat 0), (.ofNat 1)), (25, (.ofNat 0), (.ofNat 1)), (36, (.ofNat 1), (.ofNat 2)), (37, (.ofNat 692), (.ofNat 695))], [((.negSucc 39), [(1, (.ofNat 1)), (2, (.ofNat 1))]), ((.ofNat 1), [(22, (.negSucc 0)), (23, (.negSucc 0)), (24, (.negSucc 0)), (25, (.negSucc 0))])], [.inr (.inl (some 0)), .inl (false, ((.ofNat 0), [(0, (.ofNat 1))])), .inl (false, ((.ofNat 0), [(1, (.ofNat 1))])), .inl (false, ((.ofNat 0), [(2, (.ofNat 1))])), .inl (false, ((.ofNat 0), [(36, (.ofNat 1))])), .inl (false, ((.ofNat 0), [(37, (.ofNat 1))]))], [zc628,
    zc629,
    zc59,
    zc630,
    zc61,
    zc62,
    zc63,
    .inr (1, .inr (.inl 70)),
    .inr (1, .inr (.inl 8)),
    zc30,
    zc31,
    zc32,
    zc33,
    zc34,
    .inr (1, .inr (.inl 4))], [(1, [1], []), (2, [1], [])]), symsL 36 0, some ((.ofNat 17), [(36, (.negSucc 0))]), 0, 0)
noncomputable def c150_0_p5 : PE := (46, [0, 1, 2, 3, 4], (36, [(0, (.ofNat 0), (.ofNat 5)), (1, (.ofNat 0), (.ofNat 39)), (2, (.ofNat 1), (.ofNat 40)), (3, (.ofNat 0), (.ofNat 69)), (4, (.ofNat 0), (.ofNat 69)), (5, (.ofNat 0), (.ofNat 8)), (6, (.negSucc 2147483647), (.ofNat 2147483647)), (7, (.negSucc 2147483647), (.ofNat 2147483647)), (8, (.negSucc 2147483647), (.ofNat 2147483647)), (9, (.negSucc 2147483647), (.ofNat 2147483647)), (10, (.negSucc 2147483647), (.ofNat 2147483647)), (11, (.negSucc 2147483647), (.ofNat 2147483647)), (12, (.negSucc 2147483647), (.ofNat 2147483647)), (13, (.ofNat 1), (.ofNat 4)), (14, (.ofNat 0), (.ofNat 60)), (15, (.ofNat 3), (.ofNat 3)), (16, (.ofNat 0), (.ofNat 6)), (17, (.ofNat 0), (.ofNat 8)), (18, (.ofNat 0), (.ofNat 60)), (19, (.ofNat 0), (.ofNat 60)), (20, (.ofNat 0), (.ofNat 10)), (21, (.negSucc 2147483647), (.ofNat 2147483647)), (22, (.ofNat 0), (.ofNat 1)), (23, (.ofNat 0), (.ofNat 1)), (24, (.ofNat 0), (.ofNat 1)), (25, (.ofNat 0), (.ofNat 1))], [((.negSucc 39), [(1, (.ofNat 1)), (2, (.ofNat 1))]), ((.ofNat 1), [(22, (.negSucc 0)), (23, (.negSucc 0)), (24, (.negSucc 0)), (25, (.negSucc 0))])], [.inr (.inl (some 0)), .inl (false, ((.ofNat 0), [(0, (.ofNat 1))])), .inl (false, ((.ofNat 0), [(1, (.ofNat 1))])), .inl (false, ((.ofNat 0), [(2, (.ofNat 1))])), .inl (false, ((.ofNat 0), []))], [zc628,
    zc629,
    zc59,
    zc630,
    zc61,
    zc62,
    zc63,
    .inr (1, .inr (.inl 70)),
    .inr (1, .inr (.inl 8)),
    zc30,
    zc31,
    zc32,
    zc33,
    zc34,
    .inr (1, .inr (.inl 4))], [(1, [1], []), (2, [1], [])]), symsL 36 0, some ((.ofNat 17), []), 0, 0)
noncomputable def c150_0_p6 : PE := (46, [0, 1, 2, 3, 4, 5], (38, [(0, (.ofNat 0), (.ofNat 5)), (1, (.ofNat 0), (.ofNat 39)), (2, (.ofNat 1), (.ofNat 40)), (3, (.ofNat 0), (.ofNat 69)), (4, (.ofNat 0), (.ofNat 69)), (5, (.ofNat 0), (.ofNat 8)), (6, (.negSucc 2147483647), (.ofNat 2147483647)), (7, (.negSucc 2147483647), (.ofNat 2147483647)), (8, (.negSucc 2147483647), (.ofNat 2147483647)), (9, (.negSucc 2147483647), (.ofNat 2147483647)), (10, (.negSucc 2147483647), (.ofNat 2147483647)), (11, (.negSucc 2147483647), (.ofNat 2147483647)), (12, (.negSucc 2147483647), (.ofNat 2147483647)), (13, (.ofNat 1), (.ofNat 4)), (14, (.ofNat 0), (.ofNat 60)), (15, (.ofNat 3), (.ofNat 3)), (16, (.ofNat 0), (.ofNat 6)), (17, (.ofNat 0), (.ofNat 8)), (18, (.ofNat 0), (.ofNat 60)), (19, (.ofNat 0), (.ofNat 60)), (20, (.ofNat 0), (.ofNat 10)), (21, (.negSucc 2147483647), (.ofNat 2147483647)), (22, (.ofNat 0), (.ofNat 1)), (23, (.ofNat 0), (.ofNat 1)), (24, (.ofNat 0), (.ofNat 1)), (25, (.ofNat 0), (.ofNat 1)), (36, (.ofNat 1), (.ofNat 3)), (37, (.ofNat 692), (.ofNat 698))], [((.negSucc 39), [(1, (.ofNat 1)), (2, (.ofNat 1))]), ((.ofNat 1), [(22, (.negSucc 0)), (23, (.negSucc 0)), (24, (.negSucc 0)), (25, (.negSucc 0))])], [.inr (.inl (some 0)), .inl (false, ((.ofNat 0), [(0, (.ofNat 1))])), .inl (false, ((.ofNat 0), [(1, (.ofNat 1))])), .inl (false, ((.ofNat 0), [(2, (.ofNat 1))])), .inl (false, ((.ofNat 0), [(36, (.ofNat 1))])), .inl (false, ((.ofNat 0), [(37, (.ofNat 1))]))], [zc628,
    zc629,
    zc59,
    zc630,
    zc61,
    zc62,
    zc63,
    .inr (1, .inr (.inl 70)),
    .inr (1, .inr (.inl 8)),
    zc30,
    zc31,
    zc32,
    zc33,
    zc34,
    .inr (1, .inr (.inl 4))], [(1, [1], []), (2, [1], [])]), symsL 36 0, some ((.ofNat 17), [(36, (.negSucc 0))]), 0, 0)
noncomputable def c150_0_p7 : PE := (46, [0, 1, 2, 3, 4], (36, [(0, (.ofNat 0), (.ofNat 5)), (1, (.ofNat 0), (.ofNat 39)), (2, (.ofNat 1), (.ofNat 40)), (3, (.ofNat 0), (.ofNat 69)), (4, (.ofNat 0), (.ofNat 69)), (5, (.ofNat 0), (.ofNat 8)), (6, (.negSucc 2147483647), (.ofNat 2147483647)), (7, (.negSucc 2147483647), (.ofNat 2147483647)), (8, (.negSucc 2147483647), (.ofNat 2147483647)), (9, (.negSucc 2147483647), (.ofNat 2147483647)), (10, (.negSucc 2147483647), (.ofNat 2147483647)), (11, (.negSucc 2147483647), (.ofNat 2147483647)), (12, (.negSucc 2147483647), (.ofNat 2147483647)), (13, (.ofNat 1), (.ofNat 4)), (14, (.ofNat 0), (.ofNat 60)), (15, (.ofNat 4), (.ofNat 4)), (16, (.ofNat 0), (.ofNat 6)), (17, (.ofNat 0), (.ofNat 8)), (18, (.ofNat 0), (.ofNat 60)), (19, (.ofNat 0), (.ofNat 60)), (20, (.ofNat 0), (.ofNat 10)), (21, (.negSucc 2147483647), (.ofNat 2147483647)), (22, (.ofNat 0), (.ofNat 1)), (23, (.ofNat 0), (.ofNat 1)), (24, (.ofNat 0), (.ofNat 1)), (25, (.ofNat 0), (.ofNat 1))], [((.negSucc 39), [(1, (.ofNat 1)), (2, (.ofNat 1))]), ((.ofNat 1), [(22, (.negSucc 0)), (23, (.negSucc 0)), (24, (.negSucc 0)), (25, (.negSucc 0))])], [.inr (.inl (some 0)), .inl (false, ((.ofNat 0), [(0, (.ofNat 1))])), .inl (false, ((.ofNat 0), [(1, (.ofNat 1))])), .inl (false, ((.ofNat 0), [(2, (.ofNat 1))])), .inl (false, ((.ofNat 0), []))], [zc628,
    zc629,
    zc59,
    zc630,
    zc61,
    zc62,
    zc63,
    .inr (1, .inr (.inl 70)),
    .inr (1, .inr (.inl 8)),
    zc30,
    zc31,
    zc32,
    zc33,
    zc34,
    .inr (1, .inr (.inl 4))], [(1, [1], []), (2, [1], [])]), symsL 36 0, some ((.ofNat 17), []), 0, 0)
noncomputable def c150_0_p8 : PE := (46, [0, 1, 2, 3, 4, 5], (38, [(0, (.ofNat 0), (.ofNat 5)), (1, (.ofNat 0), (.ofNat 39)), (2, (.ofNat 1), (.ofNat 40)), (3, (.ofNat 0), (.ofNat 69)), (4, (.ofNat 0), (.ofNat 69)), (5, (.ofNat 0), (.ofNat 8)), (6, (.negSucc 2147483647), (.ofNat 2147483647)), (7, (.negSucc 2147483647), (.ofNat 2147483647)), (8, (.negSucc 2147483647), (.ofNat 2147483647)), (9, (.negSucc 2147483647), (.ofNat 2147483647)), (10, (.negSucc 2147483647), (.ofNat 2147483647)), (11, (.negSucc 2147483647), (.ofNat 2147483647)), (12, (.negSucc 2147483647), (.ofNat 2147483647)), (13, (.ofNat 1), (.ofNat 4)), (14, (.ofNat 0), (.ofNat 60)), (15, (.ofNat 4), (.ofNat 4)), (16, (.ofNat 0), (.ofNat 6)), (17, (.ofNat 0), (.ofNat 8)), (18, (.ofNat 0), (.ofNat 60)), (19, (.ofNat 0), (.ofNat 60)), (20, (.ofNat 0), (.ofNat 10)), (21, (.negSucc 2147483647), (.ofNat 2147483647)), (22, (.ofNat 0), (.ofNat 1)), (23, (.ofNat 0), (.ofNat 1)), (24, (.ofNat 0), (.ofNat 1)), (25, (.ofNat 0), (.ofNat 1)), (36, (.ofNat 1), (.ofNat 4)), (37, (.ofNat 692), (.ofNat 910))], [((.negSucc 39), [(1, (.ofNat 1)), (2, (.ofNat 1))]), ((.ofNat 1), [(22, (.negSucc 0)), (23, (.negSucc 0)), (24, (.negSucc 0)), (25, (.negSucc 0))])], [.inr (.inl (some 0)), .inl (false, ((.ofNat 0), [(0, (.ofNat 1))])), .inl (false, ((.ofNat 0), [(1, (.ofNat 1))])), .inl (false, ((.ofNat 0), [(2, (.ofNat 1))])), .inl (false, ((.ofNat 0), [(36, (.ofNat 1))])), .inl (false, ((.ofNat 0), [(37, (.ofNat 1))]))], [zc628,
    zc629,
    zc59,
    zc630,
    zc61,
    zc62,
    zc63,
    .inr (1, .inr (.inl 70)),
    .inr (1, .inr (.inl 8)),
    zc30,
    zc31,
    zc32,
    zc33,
    zc34,
    .inr (1, .inr (.inl 4))], [(1, [1], []), (2, [1], [])]), symsL 36 0, some ((.ofNat 17), [(36, (.negSucc 0))]), 0, 0)
noncomputable def c150_0_p9 : PE := (46, [0, 1, 2, 3, 4], (36, [(0, (.ofNat 0), (.ofNat 5)), (1, (.ofNat 0), (.ofNat 39)), (2, (.ofNat 1), (.ofNat 40)), (3, (.ofNat 0), (.ofNat 69)), (4, (.ofNat 0), (.ofNat 69)), (5, (.ofNat 0), (.ofNat 8)), (6, (.negSucc 2147483647), (.ofNat 2147483647)), (7, (.negSucc 2147483647), (.ofNat 2147483647)), (8, (.negSucc 2147483647), (.ofNat 2147483647)), (9, (.negSucc 2147483647), (.ofNat 2147483647)), (10, (.negSucc 2147483647), (.ofNat 2147483647)), (11, (.negSucc 2147483647), (.ofNat 2147483647)), (12, (.negSucc 2147483647), (.ofNat 2147483647)), (13, (.ofNat 1), (.ofNat 4)), (14, (.ofNat 0), (.ofNat 60)), (15, (.ofNat 5), (.ofNat 5)), (16, (.ofNat 0), (.ofNat 6)), (17, (.ofNat 0), (.ofNat 8)), (18, (.ofNat 0), (.ofNat 60)), (19, (.ofNat 0), (.ofNat 60)), (20, (.ofNat 0), (.ofNat 10)), (21, (.negSucc 2147483647), (.ofNat 2147483647)), (22, (.ofNat 0), (.ofNat 1)), (23, (.ofNat 0), (.ofNat 1)), (24, (.ofNat 0), (.ofNat 1)), (25, (.ofNat 0), (.ofNat 1))], [((.negSucc 39), [(1, (.ofNat 1)), (2, (.ofNat 1))]), ((.ofNat 1), [(22, (.negSucc 0)), (23, (.negSucc 0)), (24, (.negSucc 0)), (25, (.negSucc 0))])], [.inr (.inl (some 0)), .inl (false, ((.ofNat 0), [(0, (.ofNat 1))])), .inl (false, ((.ofNat 0), [(1, (.ofNat 1))])), .inl (false, ((.ofNat 0), [(2, (.ofNat 1))])), .inl (false, ((.ofNat 0), []))], [zc628,
    zc629,
    zc59,
    zc630,
    zc61,
    zc62,
    zc63,
    .inr (1, .inr (.inl 70)),
    .inr (1, .inr (.inl 8)),
    zc30,
    zc31,
    zc32,
    zc33,
    zc34,
    .inr (1, .inr (.inl 4))], [(1, [1], []), (2, [1], [])]), symsL 36 0, some ((.ofNat 17), []), 0, 0)
noncomputable def c150_0_p10 : PE := (46, [0, 1, 2, 3, 4, 5], (38, [(0, (.ofNat 0), (.ofNat 5)), (1, (.ofNat 0), (.ofNat 39)), (2, (.ofNat 1), (.ofNat 40)), (3, (.ofNat 0), (.ofNat 69)), (4, (.ofNat 0), (.ofNat 69)), (5, (.ofNat 0), (.ofNat 8)), (6, (.negSucc 2147483647), (.ofNat 2147483647)), (7, (.negSucc 2147483647), (.ofNat 2147483647)), (8, (.negSucc 2147483647), (.ofNat 2147483647)), (9, (.negSucc 2147483647), (.ofNat 2147483647)), (10, (.negSucc 2147483647), (.ofNat 2147483647)), (11, (.negSucc 2147483647), (.ofNat 2147483647)), (12, (.negSucc 2147483647), (.ofNat 2147483647)), (13, (.ofNat 1), (.ofNat 4)), (14, (.ofNat 0), (.ofNat 60)), (15, (.ofNat 5), (.ofNat 5)), (16, (.ofNat 0), (.ofNat 6)), (17, (.ofNat 0), (.ofNat 8)), (18, (.ofNat 0), (.ofNat 60)), (19, (.ofNat 0), (.ofNat 60)), (20, (.ofNat 0), (.ofNat 10)), (21, (.negSucc 2147483647), (.ofNat 2147483647)), (22, (.ofNat 0), (.ofNat 1)), (23, (.ofNat 0), (.ofNat 1)), (24, (.ofNat 0), (.ofNat 1)), (25, (.ofNat 0), (.ofNat 1)), (36, (.ofNat 1), (.ofNat 5)), (37, (.ofNat 692), (.ofNat 910))], [((.negSucc 39), [(1, (.ofNat 1)), (2, (.ofNat 1))]), ((.ofNat 1), [(22, (.negSucc 0)), (23, (.negSucc 0)), (24, (.negSucc 0)), (25, (.negSucc 0))])], [.inr (.inl (some 0)), .inl (false, ((.ofNat 0), [(0, (.ofNat 1))])), .inl (false, ((.ofNat 0), [(1, (.ofNat 1))])), .inl (false, ((.ofNat 0), [(2, (.ofNat 1))])), .inl (false, ((.ofNat 0), [(36, (.ofNat 1))])), .inl (false, ((.ofNat 0), [(37, (.ofNat 1))]))], [zc628,
    zc629,
    zc59,
    zc630,
    zc61,
    zc62,
    zc63,
    .inr (1, .inr (.inl 70)),
    .inr (1, .inr (.inl 8)),
    zc30,
    zc31,
    zc32,
    zc33,
    zc34,
    .inr (1, .inr (.inl 4))], [(1, [1], []), (2, [1], [])]), symsL 36 0, some ((.ofNat 17), [(36, (.negSucc 0))]), 0, 0)
noncomputable def c150_0_p11 : PE := (46, [0, 1, 2, 3, 4], (36, [(0, (.ofNat 0), (.ofNat 5)), (1, (.ofNat 0), (.ofNat 39)), (2, (.ofNat 1), (.ofNat 40)), (3, (.ofNat 0), (.ofNat 69)), (4, (.ofNat 0), (.ofNat 69)), (5, (.ofNat 0), (.ofNat 8)), (6, (.negSucc 2147483647), (.ofNat 2147483647)), (7, (.negSucc 2147483647), (.ofNat 2147483647)), (8, (.negSucc 2147483647), (.ofNat 2147483647)), (9, (.negSucc 2147483647), (.ofNat 2147483647)), (10, (.negSucc 2147483647), (.ofNat 2147483647)), (11, (.negSucc 2147483647), (.ofNat 2147483647)), (12, (.negSucc 2147483647), (.ofNat 2147483647)), (13, (.ofNat 1), (.ofNat 4)), (14, (.ofNat 0), (.ofNat 60)), (15, (.ofNat 6), (.ofNat 6)), (16, (.ofNat 0), (.ofNat 6)), (17, (.ofNat 0), (.ofNat 8)), (18, (.ofNat 0), (.ofNat 60)), (19, (.ofNat 0), (.ofNat 60)), (20, (.ofNat 0), (.ofNat 10)), (21, (.negSucc 2147483647), (.ofNat 2147483647)), (22, (.ofNat 0), (.ofNat 1)), (23, (.ofNat 0), (.ofNat 1)), (24, (.ofNat 0), (.ofNat 1)), (25, (.ofNat 0), (.ofNat 1))], [((.negSucc 39), [(1, (.ofNat 1)), (2, (.ofNat 1))]), ((.ofNat 1), [(22, (.negSucc 0)), (23, (.negSucc 0)), (24, (.negSucc 0)), (25, (.negSucc 0))])], [.inr (.inl (some 0)), .inl (false, ((.ofNat 0), [(0, (.ofNat 1))])), .inl (false, ((.ofNat 0), [(1, (.ofNat 1))])), .inl (false, ((.ofNat 0), [(2, (.ofNat 1))])), .inl (false, ((.ofNat 0), []))], [zc628,
    zc629,
    zc59,
    zc630,
    zc61,
    zc62,
    zc63,
    .inr (1, .inr (.inl 70)),
    .inr (1, .inr (.inl 8)),
    zc30,
    zc31,
    zc32,
    zc33,
    zc34,
    .inr (1, .inr (.inl 4))], [(1, [1], []), (2, [1], [])]), symsL 36 0, some ((.ofNat 17), []), 0, 0)
noncomputable def c150_0_p12 : PE := (46, [0, 1, 2, 3, 4, 5], (38, [(0, (.ofNat 0), (.ofNat 5)), (1, (.ofNat 0), (.ofNat 39)), (2, (.ofNat 1), (.ofNat 40)), (3, (.ofNat 0), (.ofNat 69)), (4, (.ofNat 0), (.ofNat 69)), (5, (.ofNat 0), (.ofNat 8)), (6, (.negSucc 2147483647), (.ofNat 2147483647)), (7, (.negSucc 2147483647), (.ofNat 2147483647)), (8, (.negSucc 2147483647), (.ofNat 2147483647)), (9, (.negSucc 2147483647), (.ofNat 2147483647)), (10, (.negSucc 2147483647), (.ofNat 2147483647)), (11, (.negSucc 2147483647), (.ofNat 2147483647)), (12, (.negSucc 2147483647), (.ofNat 2147483647)), (13, (.ofNat 1), (.ofNat 4)), (14, (.ofNat 0), (.ofNat 60)), (15, (.ofNat 6), (.ofNat 6)), (16, (.ofNat 0), (.ofNat 6)), (17, (.ofNat 0), (.ofNat 8)), (18, (.ofNat 0), (.ofNat 60)), (19, (.ofNat 0), (.ofNat 60)), (20, (.ofNat 0), (.ofNat 10)), (21, (.negSucc 2147483647), (.ofNat 2147483647)), (22, (.ofNat 0), (.ofNat 1)), (23, (.ofNat 0), (.ofNat 1)), (24, (.ofNat 0), (.ofNat 1)), (25, (.ofNat 0), (.ofNat 1)), (36, (.ofNat 1), (.ofNat 6)), (37, (.ofNat 692), (.ofNat 910))], [((.negSucc 39), [(1, (.ofNat 1)), (2, (.ofNat 1))]), ((.ofNat 1), [(22, (.negSucc 0)), (23, (.negSucc 0)), (24, (.negSucc 0)), (25, (.negSucc 0))])], [.inr (.inl (some 0)), .inl (false, ((.ofNat 0), [(0, (.ofNat 1))])), .inl (false, ((.ofNat 0), [(1, (.ofNat 1))])), .inl (false, ((.ofNat 0), [(2, (.ofNat 1))])), .inl (false, ((.ofNat 0), [(36, (.ofNat 1))])), .inl (false, ((.ofNat 0), [(37, (.ofNat 1))]))], [zc628,
    zc629,
    zc59,
    zc630,
    zc61,
    zc62,
    zc63,
    .inr (1, .inr (.inl 70)),
    .inr (1, .inr (.inl 8)),
    zc30,
    zc31,
    zc32,
    zc33,
    zc34,
    .inr (1, .inr (.inl 4))], [(1, [1], []), (2, [1], [])]), symsL 36 0, some ((.ofNat 17), [(36, (.negSucc 0))]), 0, 0)
noncomputable def c150_0_p13 : PE := (46, [0, 1, 2, 3, 4], (36, [(0, (.ofNat 0), (.ofNat 5)), (1, (.ofNat 0), (.ofNat 39)), (2, (.ofNat 1), (.ofNat 40)), (3, (.ofNat 0), (.ofNat 69)), (4, (.ofNat 0), (.ofNat 69)), (5, (.ofNat 0), (.ofNat 8)), (6, (.negSucc 2147483647), (.ofNat 2147483647)), (7, (.negSucc 2147483647), (.ofNat 2147483647)), (8, (.negSucc 2147483647), (.ofNat 2147483647)), (9, (.negSucc 2147483647), (.ofNat 2147483647)), (10, (.negSucc 2147483647), (.ofNat 2147483647)), (11, (.negSucc 2147483647), (.ofNat 2147483647)), (12, (.negSucc 2147483647), (.ofNat 2147483647)), (13, (.ofNat 1), (.ofNat 4)), (14, (.ofNat 0), (.ofNat 60)), (15, (.ofNat 7), (.ofNat 7)), (16, (.ofNat 0), (.ofNat 6)), (17, (.ofNat 0), (.ofNat 8)), (18, (.ofNat 0), (.ofNat 60)), (19, (.ofNat 0), (.ofNat 60)), (20, (.ofNat 0), (.ofNat 10)), (21, (.negSucc 2147483647), (.ofNat 2147483647)), (22, (.ofNat 0), (.ofNat 1)), (23, (.ofNat 0), (.ofNat 1)), (24, (.ofNat 0), (.ofNat 1)), (25, (.ofNat 0), (.ofNat 1))], [((.negSucc 39), [(1, (.ofNat 1)), (2, (.ofNat 1))]), ((.ofNat 1), [(22, (.negSucc 0)), (23, (.negSucc 0)), (24, (.negSucc 0)), (25, (.negSucc 0))])], [.inr (.inl (some 0)), .inl (false, ((.ofNat 0), [(0, (.ofNat 1))])), .inl (false, ((.ofNat 0), [(1, (.ofNat 1))])), .inl (false, ((.ofNat 0), [(2, (.ofNat 1))])), .inl (false, ((.ofNat 0), []))], [zc628,
    zc629,
    zc59,
    zc630,
    zc61,
    zc62,
    zc63,
    .inr (1, .inr (.inl 70)),
    .inr (1, .inr (.inl 8)),
    zc30,
    zc31,
    zc32,
    zc33,
    zc34,
    .inr (1, .inr (.inl 4))], [(1, [1], []), (2, [1], [])]), symsL 36 0, some ((.ofNat 17), []), 0, 0)
noncomputable def c150_0_p14 : PE := (46, [0, 1, 2, 3, 4, 5], (38, [(0, (.ofNat 0), (.ofNat 5)), (1, (.ofNat 0), (.ofNat 39)), (2, (.ofNat 1), (.ofNat 40)), (3, (.ofNat 0), (.ofNat 69)), (4, (.ofNat 0), (.ofNat 69)), (5, (.ofNat 0), (.ofNat 8)), (6, (.negSucc 2147483647), (.ofNat 2147483647)), (7, (.negSucc 2147483647), (.ofNat 2147483647)), (8, (.negSucc 2147483647), (.ofNat 2147483647)), (9, (.negSucc 2147483647), (.ofNat 2147483647)), (10, (.negSucc 2147483647), (.ofNat 2147483647)), (11, (.negSucc 2147483647), (.ofNat 2147483647)), (12, (.negSucc 2147483647), (.ofNat 2147483647)), (13, (.ofNat 1), (.ofNat 4)), (14, (.ofNat 0), (.ofNat 60)), (15, (.ofNat 7), (.ofNat 7)), (16, (.ofNat 0), (.ofNat 6)), (17, (.ofNat 0), (.ofNat 8)), (18, (.ofNat 0), (.ofNat 60)), (19, (.ofNat 0), (.ofNat 60)), (20, (.ofNat 0), (.ofNat 10)), (21, (.negSucc 2147483647), (.ofNat 2147483647)), (22, (.ofNat 0), (.ofNat 1)), (23, (.ofNat 0), (.ofNat 1)), (24, (.ofNat 0), (.ofNat 1)), (25, (.ofNat 0), (.ofNat 1)), (36, (.ofNat 1), (.ofNat 7)), (37, (.ofNat 692), (.ofNat 910))], [((.negSucc 39), [(1, (.ofNat 1)), (2, (.ofNat 1))]), ((.ofNat 1), [(22, (.negSucc 0)), (23, (.negSucc 0)), (24, (.negSucc 0)), (25, (.negSucc 0))])], [.inr (.inl (some 0)), .inl (false, ((.ofNat 0), [(0, (.ofNat 1))])), .inl (false, ((.ofNat 0), [(1, (.ofNat 1))])), .inl (false, ((.ofNat 0), [(2, (.ofNat 1))])), .inl (false, ((.ofNat 0), [(36, (.ofNat 1))])), .inl (false, ((.ofNat 0), [(37, (.ofNat 1))]))], [zc628,
    zc629,
    zc59,
    zc630,
    zc61,
    zc62,
    zc63,
    .inr (1, .inr (.inl 70)),
    .inr (1, .inr (.inl 8)),
    zc30,
    zc31,
    zc32,
    zc33,
    zc34,
    .inr (1, .inr (.inl 4))], [(1, [1], []), (2, [1], [])]), symsL 36 0, some ((.ofNat 17), [(36, (.negSucc 0))]), 0, 0)
noncomputable def c150_0_p15 : PE := (46, [0, 1, 2, 3, 4], (36, [(0, (.ofNat 0), (.ofNat 5)), (1, (.ofNat 0), (.ofNat 39)), (2, (.ofNat 1), (.ofNat 40)), (3, (.ofNat 0), (.ofNat 69)), (4, (.ofNat 0), (.ofNat 69)), (5, (.ofNat 0), (.ofNat 8)), (6, (.negSucc 2147483647), (.ofNat 2147483647)), (7, (.negSucc 2147483647), (.ofNat 2147483647)), (8, (.negSucc 2147483647), (.ofNat 2147483647)), (9, (.negSucc 2147483647), (.ofNat 2147483647)), (10, (.negSucc 2147483647), (.ofNat 2147483647)), (11, (.negSucc 2147483647), (.ofNat 2147483647)), (12, (.negSucc 2147483647), (.ofNat 2147483647)), (13, (.ofNat 1), (.ofNat 4)), (14, (.ofNat 0), (.ofNat 60)), (15, (.ofNat 8), (.ofNat 8)), (16, (.ofNat 0), (.ofNat 6)), (17, (.ofNat 0), (.ofNat 8)), (18, (.ofNat 0), (.ofNat 60)), (19, (.ofNat 0), (.ofNat 60)), (20, (.ofNat 0), (.ofNat 10)), (21, (.negSucc 2147483647), (.ofNat 2147483647)), (22, (.ofNat 0), (.ofNat 1)), (23, (.ofNat 0), (.ofNat 1)), (24, (.ofNat 0), (.ofNat 1)), (25, (.ofNat 0), (.ofNat 1))], [((.negSucc 39), [(1, (.ofNat 1)), (2, (.ofNat 1))]), ((.ofNat 1), [(22, (.negSucc 0)), (23, (.negSucc 0)), (24, (.negSucc 0)), (25, (.negSucc 0))])], [.inr (.inl (some 0)), .inl (false, ((.ofNat 0), [(0, (.ofNat 1))])), .inl (false, ((.ofNat 0), [(1, (.ofNat 1))])), .inl (false, ((.ofNat 0), [(2, (.ofNat 1))])), .inl (false, ((.ofNat 0), []))], [zc628,
    zc629,
    zc59,
    zc630,
    zc61,
    zc62,
    zc63,
    .inr (1, .inr (.inl 70)),
    .inr (1, .inr (.inl 8)),
    zc30,
    zc31,
    zc32,
    zc33,
    zc34,
    .inr (1, .inr (.inl 4))], [(1, [1], []), (2, [1], [])]), symsL 36 0, some ((.ofNat 17), []), 0, 0)
noncomputable def c150_0_p16 : PE := (46, [0, 1, 2, 3, 4, 5], (38, [(0, (.ofNat 0), (.ofNat 5)), (1, (.ofNat 0), (.ofNat 39)), (2, (.ofNat 1), (.ofNat 40)), (3, (.ofNat 0), (.ofNat 69)), (4, (.ofNat 0), (.ofNat 69)), (5, (.ofNat 0), (.ofNat 8)), (6, (.negSucc 2147483647), (.ofNat 2147483647)), (7, (.negSucc 2147483647), (.ofNat 2147483647)), (8, (.negSucc 2147483647), (.ofNat 2147483647)), (9, (.negSucc 2147483647), (.ofNat 2147483647)), (10, (.negSucc 2147483647), (.ofNat 2147483647)), (11, (.negSucc 2147483647), (.ofNat 2147483647)), (12, (.negSucc 2147483647), (.ofNat 2147483647)), (13, (.ofNat 1), (.ofNat 4)), (14, (.ofNat 0), (.ofNat 60)), (15, (.ofNat 8), (.ofNat 8)), (16, (.ofNat 0), (.ofNat 6)), (17, (.ofNat 0), (.ofNat 8)), (18, (.ofNat 0), (.ofNat 60)), (19, (.ofNat 0), (.ofNat 60)), (20, (.ofNat 0), (.ofNat 10)), (21, (.negSucc 2147483647), (.ofNat 2147483647)), (22, (.ofNat 0), (.ofNat 1)), (23, (.ofNat 0), (.ofNat 1)), (24, (.ofNat 0), (.ofNat 1)), (25, (.ofNat 0), (.ofNat 1)), (36, (.ofNat 1), (.ofNat 8)), (37, (.ofNat 692), (.ofNat 910))], [((.negSucc 39), [(1, (.ofNat 1)), (2, (.ofNat 1))]), ((.ofNat 1), [(22, (.negSucc 0)), (23, (.negSucc 0)), (24, (.negSucc 0)), (25, (.negSucc 0))])], [.inr (.inl (some 0)), .inl (false, ((.ofNat 0), [(0, (.ofNat 1))])), .inl (false, ((.ofNat 0), [(1, (.ofNat 1))])), .inl (false, ((.ofNat 0), [(2, (.ofNat 1))])), .inl (false, ((.ofNat 0), [(36, (.ofNat 1))])), .inl (false, ((.ofNat 0), [(37, (.ofNat 1))]))], [zc628,
    zc629,
    zc59,
    zc630,
    zc61,
    zc62,
    zc63,
    .inr (1, .inr (.inl 70)),
    .inr (1, .inr (.inl 8)),
    zc30,
    zc31,
    zc32,
    zc33,
    zc34,
    .inr (1, .inr (.inl 4))], [(1, [1], []), (2, [1], [])]), symsL 36 0, some ((.ofNat 17), [(36, (.negSucc 0))]), 0, 0)
noncomputable def c150_0_pts : List PE := [c150_0_p0, c150_0_p1, c150_0_p2, c150_0_p3, c150_0_p4, c150_0_p5, c150_0_p6, c150_0_p7, c150_0_p8, c150_0_p9, c150_0_p10, c150_0_p11, c150_0_p12, c150_0_p13, c150_0_p14, c150_0_p15, c150_0_p16]
set_option maxRecDepth 100000 in
theorem c150_0_k : enCtF c150_0 c150_0_e (c150_0_pts ++ []) (some (15, 0, 9)) (noF, noM, 70368744177664, 0, 36) 3000 = true := by decide +kernel
set_option maxRecDepth 100000 in
theorem c150_0_k0 : ptCtF c150_0 c150_0_e (c150_0_pts ++ []) (noF, noM, 70368744177664, 0, 36) 3000 c150_0_p0 = true := by decide +kernel
set_option maxRecDepth 100000 in
theorem c150_0_k1 : ptCtF c150_0 c150_0_e (c150_0_pts ++ []) (noF, noM, 70368744177664, 0, 36) 3000 c150_0_p1 = true := by decide +kernel
set_option maxRecDepth 100000 in
theorem c150_0_k2 : ptCtF c150_0 c150_0_e (c150_0_pts ++ []) (noF, noM, 70368744177664, 0, 36) 3000 c150_0_p2 = true := by decide +kernel
set_option maxRecDepth 100000 in
theorem c150_0_k3 : ptCtF c150_0 c150_0_e (c150_0_pts ++ []) (noF, noM, 70368744177664, 0, 36) 3000 c150_0_p3 = true := by decide +kernel
set_option maxRecDepth 100000 in
theorem c150_0_k4 : ptCtF c150_0 c150_0_e (c150_0_pts ++ []) (noF, noM, 70368744177664, 0, 36) 3000 c150_0_p4 = true := by decide +kernel
set_option maxRecDepth 100000 in
theorem c150_0_k5 : ptCtF c150_0 c150_0_e (c150_0_pts ++ []) (noF, noM, 70368744177664, 0, 36) 3000 c150_0_p5 = true := by decide +kernel
set_option maxRecDepth 100000 in
theorem c150_0_k6 : ptCtF c150_0 c150_0_e (c150_0_pts ++ []) (noF, noM, 70368744177664, 0, 36) 3000 c150_0_p6 = true := by decide +kernel
set_option maxRecDepth 100000 in
theorem c150_0_k7 : ptCtF c150_0 c150_0_e (c150_0_pts ++ []) (noF, noM, 70368744177664, 0, 36) 3000 c150_0_p7 = true := by decide +kernel
set_option maxRecDepth 100000 in
theorem c150_0_k8 : ptCtF c150_0 c150_0_e (c150_0_pts ++ []) (noF, noM, 70368744177664, 0, 36) 3000 c150_0_p8 = true := by decide +kernel
set_option maxRecDepth 100000 in
theorem c150_0_k9 : ptCtF c150_0 c150_0_e (c150_0_pts ++ []) (noF, noM, 70368744177664, 0, 36) 3000 c150_0_p9 = true := by decide +kernel
set_option maxRecDepth 100000 in
theorem c150_0_k10 : ptCtF c150_0 c150_0_e (c150_0_pts ++ []) (noF, noM, 70368744177664, 0, 36) 3000 c150_0_p10 = true := by decide +kernel
set_option maxRecDepth 100000 in
theorem c150_0_k11 : ptCtF c150_0 c150_0_e (c150_0_pts ++ []) (noF, noM, 70368744177664, 0, 36) 3000 c150_0_p11 = true := by decide +kernel
set_option maxRecDepth 100000 in
theorem c150_0_k12 : ptCtF c150_0 c150_0_e (c150_0_pts ++ []) (noF, noM, 70368744177664, 0, 36) 3000 c150_0_p12 = true := by decide +kernel
set_option maxRecDepth 100000 in
theorem c150_0_k13 : ptCtF c150_0 c150_0_e (c150_0_pts ++ []) (noF, noM, 70368744177664, 0, 36) 3000 c150_0_p13 = true := by decide +kernel
set_option maxRecDepth 100000 in
theorem c150_0_k14 : ptCtF c150_0 c150_0_e (c150_0_pts ++ []) (noF, noM, 70368744177664, 0, 36) 3000 c150_0_p14 = true := by decide +kernel
set_option maxRecDepth 100000 in
theorem c150_0_k15 : ptCtF c150_0 c150_0_e (c150_0_pts ++ []) (noF, noM, 70368744177664, 0, 36) 3000 c150_0_p15 = true := by decide +kernel
set_option maxRecDepth 100000 in
theorem c150_0_k16 : ptCtF c150_0 c150_0_e (c150_0_pts ++ []) (noF, noM, 70368744177664, 0, 36) 3000 c150_0_p16 = true := by decide +kernel
set_option maxRecDepth 100000 in
theorem c150_0_v : ValidC PPk c150_0 := ct_ok fpk ⟨noF_ok, noM_ok⟩ (d := 1) (ext := []) (pts := c150_0_pts) (env := c150_0_e) rfl (List.forall_mem_cons.mpr ⟨⟨c145_0_v, Nat.le_of_ble_eq_true rfl⟩, fun _ h => (by cases h)⟩) ext_nil (fun q h => (by cases h; exact Nat.le_of_ble_eq_true rfl)) (enF c150_0_k) (List.forall_mem_cons.mpr ⟨ptF c150_0_k0, List.forall_mem_cons.mpr ⟨ptF c150_0_k1, List.forall_mem_cons.mpr ⟨ptF c150_0_k2, List.forall_mem_cons.mpr ⟨ptF c150_0_k3, List.forall_mem_cons.mpr ⟨ptF c150_0_k4, List.forall_mem_cons.mpr ⟨ptF c150_0_k5, List.forall_mem_cons.mpr ⟨ptF c150_0_k6, List.forall_mem_cons.mpr ⟨ptF c150_0_k7, List.forall_mem_cons.mpr ⟨ptF c150_0_k8, List.forall_mem_cons.mpr ⟨ptF c150_0_k9, List.forall_mem_cons.mpr ⟨ptF c150_0_k10, List.forall_mem_cons.mpr ⟨ptF c150_0_k11, List.forall_mem_cons.mpr ⟨ptF c150_0_k12, List.forall_mem_cons.mpr ⟨ptF c150_0_k13, List.forall_mem_cons.mpr ⟨ptF c150_0_k14, List.forall_mem_cons.mpr ⟨ptF c150_0_k15, List.forall_mem_cons.mpr ⟨ptF c150_0_k16, fun _ h => (by cases h)⟩⟩⟩⟩⟩⟩⟩⟩⟩⟩⟩⟩⟩⟩⟩⟩⟩)

def zc635 : AC := .inl (12, [.inr (.inl (some 1)), .inr (.inl (some 2)), .inr (.inl (some 3)), .inl (false, ((.ofNat 0), [(0, (.ofNat 1))])), .inr (.inl (some 4)), .inr (.inl (some 5)), .inl (false, ((.ofNat 0), [(1, (.ofNat 1))])), .inr (.inl (some 6)), .inr (.inl (some 7)), .inl (false, ((.ofNat 0), [(2, (.ofNat 1))])), .inr (.inl (some 8)), .inl (false, ((.ofNat 0), [(3, (.ofNat 1))])), .inr (.inl (some 9)), .inr (.inl (some 10)), .inr (.inl (some 11)), .inr (.inl (some 12)), .inl (false, ((.ofNat 0), [(4, (.ofNat 1))])), .inl (false, ((.ofNat 0), [(5, (.ofNat 1))])), .inl (false, ((.ofNat 0), [(6, (.ofNat 1))])), .inr (.inl (some 13)), .inl (false, ((.ofNat 0), [(7, (.ofNat 1))])), .inl (false, ((.ofNat 0), [(8, (.ofNat 1))])), .inl (false, ((.ofNat 0), [(9, (.ofNat 1))])), .inr (.inl (some 14))])
def zc636 : AC := .inr (0, .inl [.inl ((.ofNat 0), [(10, (.ofNat 1))]), .inl ((.ofNat 0), [(11, (.ofNat 1))]), .inl ((.ofNat 0), [(12, (.ofNat 1))]), .inl ((.ofNat 0), [(13, (.ofNat 1))]), .inl ((.ofNat 0), [(14, (.ofNat 1))]), .inl ((.ofNat 0), [(15, (.ofNat 1))]), .inl ((.ofNat 0), [(16, (.ofNat 1))]), .inl ((.ofNat 0), [(17, (.ofNat 1))]), .inr (5, (.negSucc 2147483647), (.ofNat 2147483647)), .inr (1, (.ofNat 0), (.ofNat 3)), .inl ((.ofNat 0), [(18, (.ofNat 1))]), .inr (2, (.negSucc 2147483647), (.ofNat 2147483647)), .inr (1, (.ofNat 1), (.ofNat 1000)), .inr (1, (.ofNat 0), (.ofNat 50)), .inr (23, (.negSucc 2147483647), (.ofNat 2147483647)), .inl ((.ofNat 0), [(19, (.ofNat 1))]), .inr (39, (.negSucc 2147483647), (.ofNat 2147483647)), .inl ((.ofNat 0), [(20, (.ofNat 1))]), .inr (39, (.negSucc 2147483647), (.ofNat 2147483647)), .inl ((.ofNat 0), [(21, (.ofNat 1))]), .inr (39, (.negSucc 2147483647), (.ofNat 2147483647)), .inl ((.ofNat 0), [(22, (.ofNat 1))]), .inr (517, (.negSucc 2147483647), (.ofNat 2147483647)), .inr (12, (.ofNat 0), (.ofNat 60)), .inr (1, (.ofNat 0), (.ofNat 5)), .inr (1, (.ofNat 0), (.ofNat 39)), .inr (1, (.ofNat 0), (.ofNat 40)), .inr (1, (.ofNat 0), (.ofNat 5)), .inr (1, (.ofNat 0), (.ofNat 39)), .inr (1, (.ofNat 0), (.ofNat 40)), .inr (1, (.ofNat 0), (.ofNat 5)), .inr (1, (.ofNat 0), (.ofNat 39)), .inr (1, (.ofNat 0), (.ofNat 40)), .inr (1, (.ofNat 0), (.ofNat 5)), .inr (1, (.ofNat 0), (.ofNat 39)), .inr (1, (.ofNat 0), (.ofNat 40)), .inr (1, (.ofNat 0), (.ofNat 5)), .inr (1, (.ofNat 0), (.ofNat 39)), .inr (1, (.ofNat 0), (.ofNat 40)), .inr (1, (.ofNat 0), (.ofNat 5)), .inr (1, (.ofNat 0), (.ofNat 39)), .inr (1, (.ofNat 0), (.ofNat 40)), .inr (1, (.ofNat 0), (.ofNat 5)), .inr (1, (.ofNat 0), (.ofNat 39)), .inr (1, (.ofNat 0), (.ofNat 40)), .inr (1, (.ofNat 0), (.ofNat 5)), .inr (1, (.ofNat 0), (.ofNat 39)), .inr (1, (.ofNat 0), (.ofNat 40)), .inr (76, (.negSucc 2147483647), (.ofNat 2147483647)), .inr (2, (.negSucc 2147483647), (.ofNat 2147483647)), .inr (1, (.ofNat 0), (.ofNat 5)), .inr (2, (.negSucc 2147483647), (.ofNat 2147483647)), .inr (2, (.negSucc 2147483647), (.ofNat 2147483647)), .inr (1, (.ofNat 0), (.ofNat 5)), .inr (2, (.negSucc 2147483647), (.ofNat 2147483647)), .inr (2, (.negSucc 2147483647), (.ofNat 2147483647)), .inr (1, (.ofNat 0), (.ofNat 5)), .inr (2, (.negSucc 2147483647), (.ofNat 2147483647)), .inr (2, (.negSucc 2147483647), (.ofNat 2147483647)), .inr (1, (.ofNat 0), (.ofNat 5)), .inr (2, (.negSucc 2147483647), (.ofNat 2147483647)), .inr (2, (.negSucc 2147483647), (.ofNat 2147483647)), .inr (1, (.ofNat 0), (.ofNat 5)), .inr (2, (.negSucc 2147483647), (.ofNat 2147483647)), .inr (2, (.negSucc 2147483647), (.ofNat 2147483647)), .inr (1, (.ofNat 0), (.ofNat 5)), .inr (2, (.negSucc 2147483647), (.ofNat 2147483647)), .inr (2, (.negSucc 2147483647), (.ofNat 2147483647)), .inr (1, (.ofNat 0), (.ofNat 5)), .inr (2, (.negSucc 2147483647), (.ofNat 2147483647)), .inr (2, (.negSucc 2147483647), (.ofNat 2147483647)), .inr (1, (.ofNat 0), (.ofNat 5)), .inr (2, (.negSucc 2147483647), (.ofNat 2147483647)), .inr (60, (.ofNat 0), (.ofNat 127)), .inr (18, (.negSucc 2147483647), (.ofNat 2147483647))])
def zc637 : AC := .inr (103, .inl [.inl ((.ofNat 0), [(24, (.ofNat 1))])])
noncomputable def c151_0 : Ct := (151, 1, (33, [(0, (.ofNat 0), (.ofNat 69)), (1, (.ofNat 0), (.ofNat 69)), (2, (.ofNat 0), (.ofNat 8)), (3, (.negSucc 2147483647), (.ofNat 2147483647)), (4, (.negSucc 2147483647), (.ofNat 2147483647)), (5, (.negSucc 2147483647), (.ofNat 2147483647)), (6, (.negSucc 2147483647), (.ofNat 2147483647)), (7, (.negSucc 2147483647), (.ofNat 2147483647)), (8, (.negSucc 2147483647), (.ofNat 2147483647)), (9, (.negSucc 2147483647), (.ofNat 2147483647)), (10, (.ofNat 1), (.ofNat 4)), (11, (.ofNat 0), (.ofNat 60)), (12, (.ofNat 0), (.ofNat 8)), (13, (.ofNat 0), (.ofNat 6)), (14, (.ofNat 0), (.ofNat 8)), (15, (.ofNat 0), (.ofNat 60)), (16, (.ofNat 0), (.ofNat 60)), (17, (.ofNat 0), (.ofNat 10)), (18, (.negSucc 2147483647), (.ofNat 2147483647)), (19, (.ofNat 0), (.ofNat 1)), (20, (.ofNat 0), (.ofNat 1)), (21, (.ofNat 0), (.ofNat 1)), (22, (.ofNat 0), (.ofNat 1))], [((.ofNat 1), [(19, (.negSucc 0)), (20, (.negSucc 0)), (21, (.negSucc 0)), (22, (.negSucc 0))])], [.inr (.inl (some 0))], [zc635,
    zc636,
    zc56,
    zc637,
    zc97,
    zc59,
    zc60,
    .inr (1, .inr (.inl 70)),
    .inr (1, .inr (.inl 8)),
    zc61,
    zc62,
    zc63,
    zc30,
    zc31,
    .inr (1, .inr (.inl 4))], [(1, [1], []), (2, [1], [])]),
  [((33, [], [], [.inl (false, ((.ofNat 0), [(12, (.ofNat 1))]))], [zc635,
    .inr (0, .inl [.inl ((.ofNat 0), [(10, (.ofNat 1))]), .inl ((.ofNat 0), [(11, (.ofNat 1))]), .inl ((.ofNat 0), []), .inl ((.ofNat 0), [(13, (.ofNat 1))]), .inl ((.ofNat 0), [(14, (.ofNat 1))]), .inl ((.ofNat 0), [(15, (.ofNat 1))]), .inl ((.ofNat 0), [(16, (.ofNat 1))]), .inl ((.ofNat 0), [(17, (.ofNat 1))]), .inr (5, (.negSucc 2147483647), (.ofNat 2147483647)), .inr (1, (.ofNat 0), (.ofNat 3)), .inl ((.ofNat 0), [(18, (.ofNat 1))]), .inr (2, (.negSucc 2147483647), (.ofNat 2147483647)), .inr (1, (.ofNat 1), (.ofNat 1000)), .inr (1, (.ofNat 0), (.ofNat 50)), .inr (23, (.negSucc 2147483647), (.ofNat 2147483647)), .inl ((.ofNat 0), [(19, (.ofNat 1))]), .inr (39, (.negSucc 2147483647), (.ofNat 2147483647)), .inl ((.ofNat 0), [(20, (.ofNat 1))]), .inr (39, (.negSucc 2147483647), (.ofNat 2147483647)), .inl ((.ofNat 0), [(21, (.ofNat 1))]), .inr (39, (.negSucc 2147483647), (.ofNat 2147483647)), .inl ((.ofNat 0), [(22, (.ofNat 1))]), .inr (517, (.negSucc 2147483647), (.ofNat 2147483647)), .inr (12, (.ofNat 0), (.ofNat 60)), .inr (1, (.ofNat 0), (.ofNat 5)), .inr (1, (.ofNat 0), (.ofNat 39)), .inr (1, (.ofNat 0), (.ofNat 40)), .inr (1, (.ofNat 0), (.ofNat 5)), .inr (1, (.ofNat 0), (.ofNat 39)), .inr (1, (.ofNat 0), (.ofNat 40)), .inr (1, (.ofNat 0), (.ofNat 5)), .inr (1, (.ofNat 0), (.ofNat 39)), .inr (1, (.ofNat 0), (.ofNat 40)), .inr (1, (.ofNat 0), (.ofNat 5)), .inr (1, (.ofNat 0), (.ofNat 39)), .inr (1, (.ofNat 0), (.ofNat 40)), .inr (1, (.ofNat 0), (.ofNat 5)), .inr (1, (.ofNat 0), (.ofNat 39)), .inr (1, (.ofNat 0), (.ofNat 40)), .inr (1, (.ofNat 0), (.ofNat 5)), .inr (1, (.ofNat 0), (.ofNat 39)), .inr (1, (.ofNat 0), (.ofNat 40)), .inr (1, (.ofNat 0), (.ofNat 5)), .inr (1, (.ofNat 0), (.ofNat 39)), .inr (1, (.ofNat 0), (.ofNat 40)), .inr (1, (.ofNat 0), (.ofNat 5)), .inr (1, (.ofNat 0), (.ofNat 39)), .inr (1, (.ofNat 0), (.ofNat 40)), .inr (76, (.negSucc 2147483647), (.ofNat 2147483647)), .inr (2, (.negSucc 2147483647), (.ofNat 2147483647)), .inr (1, (.ofNat 0), (.ofNat 5)), .inr (2, (.negSucc 2147483647), (.ofNat 2147483647)), .inr (2, (.negSucc 2147483647), (.ofNat 2147483647)), .inr (1, (.ofNat 0), (.ofNat 5)), .inr (2, (.negSucc 2147483647), (.ofNat 2147483647)), .inr (2, (.negSucc 2147483647), (.ofNat 2147483647)), .inr (1, (.ofNat 0), (.ofNat 5)), .inr (2, (.negSucc 2147483647), (.ofNat 2147483647)), .inr (2, (.negSucc 2147483647), (.ofNat 2147483647)), .inr (1, (.ofNat 0), (.ofNat 5)), .inr (2, (.negSucc 2147483647), (.ofNat 2147483647)), .inr (2, (.negSucc 2147483647), (.ofNat 2147483647)), .inr (1, (.ofNat 0), (.ofNat 5)), .inr (2, (.negSucc 2147483647), (.ofNat 2147483647)), .inr (2, (.negSucc 2147483647), (.ofNat 2147483647)), .inr (1, (.ofNat 0), (.ofNat 5)), .inr (2, (.negSucc 2147483647), (.ofNat 2147483647)), .inr (2, (.negSucc 2147483647), (.ofNat 2147483647)), .inr (1, (.ofNat 0), (.ofNat 5)), .inr (2, (.negSucc 2147483647), (.ofNat 2147483647)), .inr (2, (.negSucc 2147483647), (.ofNat 2147483647)), .inr (1, (.ofNat 0), (.ofNat 5)), .inr (2, (.negSucc 2147483647), (.ofNat 2147483647)), .inr (60, (.ofNat 0), (.ofNat 127)), .inr (18, (.negSucc 2147483647), (.ofNat 2147483647))]),
    zc56,
    zc637,
    zc97,
    zc59,
    zc60,
    .inr (1, .inr (.inl 70)),
    .inr (1, .inr (.inl 8)),
    zc61,
    zc62,
    zc63,
    zc30,
    zc31,
    .inr (1, .inr (.inl 4))], [(1, [1], []), (2, [1], [])]), 0, 0)])
noncomputable def c151_0_e : List Ct := []
noncomputable def c151_0_pts : List PE := []
set_option maxRecDepth 100000 in
theorem c151_0_k : enCtF c151_0 c151_0_e (c151_0_pts ++ []) (none) noH 3000 = true := by decide +kernel
set_option maxRecDepth 100000 in
theorem c151_0_v : ValidC PPk c151_0 := ct_ok fpk noH_ok (d := 0) (ext := []) (pts := c151_0_pts) (env := c151_0_e) rfl (fun _ h => (by cases h)) ext_nil (fun q h => (by cases h)) (enF c151_0_k) (fun _ h => (by cases h))

noncomputable def c152_0 : Ct := (152, 2, (36, [(0, (.negSucc 2147483647), (.ofNat 2147483647)), (1, (.negSucc 2147483647), (.ofNat 2147483647)), (2, (.negSucc 2147483647), (.ofNat 2147483647)), (3, (.ofNat 0), (.ofNat 69)), (4, (.ofNat 0), (.ofNat 69)), (5, (.ofNat 0), (.ofNat 8)), (6, (.negSucc 2147483647), (.ofNat 2147483647)), (7, (.negSucc 2147483647), (.ofNat 2147483647)), (8, (.negSucc 2147483647), (.ofNat 2147483647)), (9, (.negSucc 2147483647), (.ofNat 2147483647)), (10, (.negSucc 2147483647), (.ofNat 2147483647)), (11, (.negSucc 2147483647), (.ofNat 2147483647)), (12, (.negSucc 2147483647), (.ofNat 2147483647)), (13, (.ofNat 1), (.ofNat 4)), (14, (.ofNat 0), (.ofNat 60)), (15, (.ofNat 0), (.ofNat 8)), (16, (.ofNat 0), (.ofNat 6)), (17, (.ofNat 0), (.ofNat 8)), (18, (.ofNat 0), (.ofNat 60)), (19, (.ofNat 0), (.ofNat 60)), (20, (.ofNat 0), (.ofNat 10)), (21, (.negSucc 2147483647), (.ofNat 2147483647)), (22, (.ofNat 0), (.ofNat 1)), (23, (.ofNat 0), (.ofNat 1)), (24, (.ofNat 0), (.ofNat 1)), (25, (.ofNat 0), (.ofNat 1))], [((.ofNat 1), [(22, (.negSucc 0)), (23, (.negSucc 0)), (24, (.negSucc 0)), (25, (.negSucc 0))])], [.inr (.inl (some 0)), .inl (false, ((.ofNat 0), [(0, (.ofNat 1))])), .inl (false, ((.ofNat 0), [(1, (.ofNat 1))])), .inl (false, ((.ofNat 0), [(2, (.ofNat 1))]))], [zc628,
    zc629,
    zc59,
    zc630,
    zc61,
    zc62,
    zc63,
    .inr (1, .inr (.inl 70)),
    .inr (1, .inr (.inl 8)),
    zc30,
    zc31,
    zc32,
    zc33,
    zc34,
    .inr (1, .inr (.inl 4))], [(1, [1], []), (2, [1], [])]),
  [((37, [(36, (.negSucc 1), (.ofNat 1))], [], [.inl (false, ((.ofNat 0), [(36, (.ofNat 1))]))], [zc628,
    zc629,
    zc59,
    zc630,
    zc61,
    zc62,
    zc63,
    .inr (1, .inr (.inl 70)),
    .inr (1, .inr (.inl 8)),
    zc30,
    zc31,
    zc32,
    zc33,
    zc34,
    .inr (1, .inr (.inl 4))], [(1, [1], []), (2, [1], [])]), 0, 0)])
noncomputable def c152_0_e : List Ct := [c145_0]
noncomputable def c152_0_pts : List PE := []
set_option maxRecDepth 100000 in
theorem c152_0_k : enCtF c152_0 c152_0_e (c152_0_pts ++ []) (none) noH 3000 = true := by decide +kernel
set_option maxRecDepth 100000 in
theorem c152_0_v : ValidC PPk c152_0 := ct_ok fpk noH_ok (d := 1) (ext := []) (pts := c152_0_pts) (env := c152_0_e) rfl (List.forall_mem_cons.mpr ⟨⟨c145_0_v, Nat.le_of_ble_eq_true rfl⟩, fun _ h => (by cases h)⟩) ext_nil (fun q h => (by cases h)) (enF c152_0_k) (fun _ h => (by cases h))

def zc638 : AC := .inl (12, [.inr (.inl (some 1)), .inr (.inl (some 2)), .inr (.inl (some 3)), .inl (false, ((.ofNat 0), [(2, (.ofNat 1))])), .inr (.inl (some 4)), .inr (.inl (some 5)), .inl (false, ((.ofNat 0), [(3, (.ofNat 1))])), .inr (.inl (some 6)), .inr (.inl (some 7)), .inl (false, ((.ofNat 0), [(4, (.ofNat 1))])), .inr (.inl (some 8)), .inl (false, ((.ofNat 0), [(5, (.ofNat 1))])), .inr (.inl (some 9)), .inr (.inl (some 10)), .inr (.inl (some 11)), .inr (.inl (some 12)), .inl (false, ((.ofNat 0), [(6, (.ofNat 1))])), .inl (false, ((.ofNat 0), [(7, (.ofNat 1))])), .inl (false, ((.ofNat 0), [(8, (.ofNat 1))])), .inr (.inl (some 13)), .inl (false, ((.ofNat 0), [(9, (.ofNat 1))])), .inl (false, ((.ofNat 0), [(10, (.ofNat 1))])), .inl (false, ((.ofNat 0), [(11, (.ofNat 1))])), .inr (.inl (some 14))])
def zc639 : AC := .inr (0, .inl [.inl ((.ofNat 0), [(12, (.ofNat 1))]), .inl ((.ofNat 0), [(13, (.ofNat 1))]), .inl ((.ofNat 0), [(14, (.ofNat 1))]), .inl ((.ofNat 0), [(15, (.ofNat 1))]), .inl ((.ofNat 0), [(16, (.ofNat 1))]), .inl ((.ofNat 0), [(17, (.ofNat 1))]), .inl ((.ofNat 0), [(18, (.ofNat 1))]), .inl ((.ofNat 0), [(19, (.ofNat 1))]), .inr (5, (.negSucc 2147483647), (.ofNat 2147483647)), .inr (1, (.ofNat 0), (.ofNat 3)), .inl ((.ofNat 0), [(20, (.ofNat 1))]), .inr (2, (.negSucc 2147483647), (.ofNat 2147483647)), .inr (1, (.ofNat 1), (.ofNat 1000)), .inr (1, (.ofNat 0), (.ofNat 50)), .inr (23, (.negSucc 2147483647), (.ofNat 2147483647)), .inl ((.ofNat 0), [(21, (.ofNat 1))]), .inr (39, (.negSucc 2147483647), (.ofNat 2147483647)), .inl ((.ofNat 0), [(22, (.ofNat 1))]), .inr (39, (.negSucc 2147483647), (.ofNat 2147483647)), .inl ((.ofNat 0), [(23, (.ofNat 1))]), .inr (39, (.negSucc 2147483647), (.ofNat 2147483647)), .inl ((.ofNat 0), [(24, (.ofNat 1))]), .inr (517, (.negSucc 2147483647), (.ofNat 2147483647)), .inr (12, (.ofNat 0), (.ofNat 60)), .inr (1, (.ofNat 0), (.ofNat 5)), .inr (1, (.ofNat 0), (.ofNat 39)), .inr (1, (.ofNat 0), (.ofNat 40)), .inr (1, (.ofNat 0), (.ofNat 5)), .inr (1, (.ofNat 0), (.ofNat 39)), .inr (1, (.ofNat 0), (.ofNat 40)), .inr (1, (.ofNat 0), (.ofNat 5)), .inr (1, (.ofNat 0), (.ofNat 39)), .inr (1, (.ofNat 0), (.ofNat 40)), .inr (1, (.ofNat 0), (.ofNat 5)), .inr (1, (.ofNat 0), (.ofNat 39)), .inr (1, (.ofNat 0), (.ofNat 40)), .inr (1, (.ofNat 0), (.ofNat 5)), .inr (1, (.ofNat 0), (.ofNat 39)), .inr (1, (.ofNat 0), (.ofNat 40)), .inr (1, (.ofNat 0), (.ofNat 5)), .inr (1, (.ofNat 0), (.ofNat 39)), .inr (1, (.ofNat 0), (.ofNat 40)), .inr (1, (.ofNat 0), (.ofNat 5)), .inr (1, (.ofNat 0), (.ofNat 39)), .inr (1, (.ofNat 0), (.ofNat 40)), .inr (1, (.ofNat 0), (.ofNat 5)), .inr (1, (.ofNat 0), (.ofNat 39)), .inr (1, (.ofNat 0), (.ofNat 40)), .inr (76, (.negSucc 2147483647), (.ofNat 2147483647)), .inr (2, (.negSucc 2147483647), (.ofNat 2147483647)), .inr (1, (.ofNat 0), (.ofNat 5)), .inr (2, (.negSucc 2147483647), (.ofNat 2147483647)), .inr (2, (.negSucc 2147483647), (.ofNat 2147483647)), .inr (1, (.ofNat 0), (.ofNat 5)), .inr (2, (.negSucc 2147483647), (.ofNat 2147483647)), .inr (2, (.negSucc 2147483647), (.ofNat 2147483647)), .inr (1, (.ofNat 0), (.ofNat 5)), .inr (2, (.negSucc 2147483647), (.ofNat 2147483647)), .inr (2, (.negSucc 2147483647), (.ofNat 2147483647)), .inr (1, (.ofNat 0), (.ofNat 5)), .inr (2, (.negSucc 2147483647), (.ofNat 2147483647)), .inr (2, (.negSucc 2147483647), (.ofNat 2147483647)), .inr (1, (.ofNat 0), (.ofNat 5)), .inr (2, (.negSucc 2147483647), (.ofNat 2147483647)), .inr (2, (.negSucc 2147483647), (.ofNat 2147483647)), .inr (1, (.ofNat 0), (.ofNat 5)), .inr (2, (.negSucc 2147483647), (.ofNat 2147483647)), .inr (2, (.negSucc 2147483647), (.ofNat 2147483647)), .inr (1, (.ofNat 0), (.ofNat 5)), .inr (2, (.negSucc 2147483647), (.ofNat 2147483647)), .inr (2, (.negSucc 2147483647), (.ofNat 2147483647)), .inr (1, (.ofNat 0), (.ofNat 5)), .inr (2, (.negSucc 2147483647), (.ofNat 2147483647)), .inr (60, (.ofNat 0), (.ofNat 127)), .inr (18, (.negSucc 2147483647), (.ofNat 2147483647))])
def zc640 : AC := .inr (103, .inl [.inl ((.ofNat 0), [(26, (.ofNat 1))])])
noncomputable def c153_0 : Ct := (153, 2, (35, [(0, (.negSucc 2147483647), (.ofNat 2147483647)), (1, (.negSucc 2147483647), (.ofNat 2147483647)), (2, (.ofNat 0), (.ofNat 69)), (3, (.ofNat 0), (.ofNat 69)), (4, (.ofNat 0), (.ofNat 8)), (5, (.negSucc 2147483647), (.ofNat 2147483647)), (6, (.negSucc 2147483647), (.ofNat 2147483647)), (7, (.negSucc 2147483647), (.ofNat 2147483647)), (8, (.negSucc 2147483647), (.ofNat 2147483647)), (9, (.negSucc 2147483647), (.ofNat 2147483647)), (10, (.negSucc 2147483647), (.ofNat 2147483647)), (11, (.negSucc 2147483647), (.ofNat 2147483647)), (12, (.ofNat 1), (.ofNat 4)), (13, (.ofNat 0), (.ofNat 60)), (14, (.ofNat 0), (.ofNat 8)), (15, (.ofNat 0), (.ofNat 6)), (16, (.ofNat 0), (.ofNat 8)), (17, (.ofNat 0), (.ofNat 60)), (18, (.ofNat 0), (.ofNat 60)), (19, (.ofNat 0), (.ofNat 10)), (20, (.negSucc 2147483647), (.ofNat 2147483647)), (21, (.ofNat 0), (.ofNat 1)), (22, (.ofNat 0), (.ofNat 1)), (23, (.ofNat 0), (.ofNat 1)), (24, (.ofNat 0), (.ofNat 1))], [((.ofNat 1), [(21, (.negSucc 0)), (22, (.negSucc 0)), (23, (.negSucc 0)), (24, (.negSucc 0))])], [.inr (.inl (some 0)), .inl (false, ((.ofNat 0), [(0, (.ofNat 1))])), .inl (false, ((.ofNat 0), [(1, (.ofNat 1))]))], [zc638,
    zc639,
    zc97,
    zc640,
    zc60,
    zc61,
    zc62,
    .inr (1, .inr (.inl 70)),
    .inr (1, .inr (.inl 8)),
    zc63,
    zc30,
    zc31,
    zc32,
    zc33,
    .inr (1, .inr (.inl 4))], [(1, [1], []), (2, [1], [])]),
  [((36, [(35, (.negSucc 1), (.ofNat 1))], [], [.inl (false, ((.ofNat 0), [(35, (.ofNat 1))]))], [zc638,
    zc639,
    zc97,
    zc640,
    zc60,
    zc61,
    zc62,
    .inr (1, .inr (.inl 70)),
    .inr (1, .inr (.inl 8)),
    zc63,
    zc30,
    zc31,
    zc32,
    zc33,
    .inr (1, .inr (.inl 4))], [(1, [1], []), (2, [1], [])]), 0, 0)])
noncomputable def c153_0_e : List Ct := [c145_0]
noncomputable def c153_0_pts : List PE := []
set_option maxRecDepth 100000 in
theorem c153_0_k : enCtF c153_0 c153_0_e (c153_0_pts ++ []) (none) noH 3000 = true := by decide +kernel
set_option maxRecDepth 100000 in
theorem c153_0_v : ValidC PPk c153_0 := ct_ok fpk noH_ok (d := 1) (ext := []) (pts := c153_0_pts) (env := c153_0_e) rfl (List.forall_mem_cons.mpr ⟨⟨c145_0_v, Nat.le_of_ble_eq_true rfl⟩, fun _ h => (by cases h)⟩) ext_nil (fun q h => (by cases h)) (enF c153_0_k) (fun _ h => (by cases h))

noncomputable def c154_0 : Ct := (154, 2, (37, [(0, (.negSucc 2147483647), (.ofNat 2147483647)), (1, (.negSucc 2147483647), (.ofNat 2147483647)), (2, (.negSucc 2147483647), (.ofNat 2147483647)), (3, (.negSucc 2147483647), (.ofNat 2147483647)), (4, (.ofNat 0), (.ofNat 69)), (5, (.ofNat 0), (.ofNat 69)), (6, (.ofNat 0), (.ofNat 8)), (7, (.negSucc 2147483647), (.ofNat 2147483647)), (8, (.negSucc 2147483647), (.ofNat 2147483647)), (9, (.negSucc 2147483647), (.ofNat 2147483647)), (10, (.negSucc 2147483647), (.ofNat 2147483647)), (11, (.negSucc 2147483647), (.ofNat 2147483647)), (12, (.negSucc 2147483647), (.ofNat 2147483647)), (13, (.negSucc 2147483647), (.ofNat 2147483647)), (14, (.ofNat 1), (.ofNat 4)), (15, (.ofNat 0), (.ofNat 60)), (16, (.ofNat 0), (.ofNat 8)), (17, (.ofNat 0), (.ofNat 6)), (18, (.ofNat 0), (.ofNat 8)), (19, (.ofNat 0), (.ofNat 60)), (20, (.ofNat 0), (.ofNat 60)), (21, (.ofNat 0), (.ofNat 10)), (22, (.negSucc 2147483647), (.ofNat 2147483647)), (23, (.ofNat 0), (.ofNat 1)), (24, (.ofNat 0), (.ofNat 1)), (25, (.ofNat 0), (.ofNat 1)), (26, (.ofNat 0), (.ofNat 1))], [((.ofNat 1), [(23, (.negSucc 0)), (24, (.negSucc 0)), (25, (.negSucc 0)), (26, (.negSucc 0))])], [.inr (.inl (some 0)), .inl (false, ((.ofNat 0), [(0, (.ofNat 1))])), .inl (false, ((.ofNat 0), [(1, (.ofNat 1))])), .inl (false, ((.ofNat 0), [(2, (.ofNat 1))])), .inl (false, ((.ofNat 0), [(3, (.ofNat 1))]))], [zc632,
    zc633,
    zc60,
    zc634,
    zc62,
    zc63,
    zc30,
    .inr (1, .inr (.inl 70)),
    .inr (1, .inr (.inl 8)),
    zc31,
    zc32,
    zc33,
    zc34,
    zc101,
    .inr (1, .inr (.inl 4))], [(1, [1], []), (2, [1], [])]),
  [((39, [(37, (.negSucc 3), (.ofNat 5)), (38, (.ofNat 0), (.ofNat 6))], [], [.inl (false, ((.ofNat 0), [(37, (.ofNat 1))]))], [zc632,
    .inr (0, .inl [.inl ((.ofNat 0), [(14, (.ofNat 1))]), .inl ((.ofNat 0), [(15, (.ofNat 1))]), .inl ((.ofNat 0), [(16, (.ofNat 1))]), .inl ((.ofNat 0), [(38, (.ofNat 1))]), .inl ((.ofNat 0), [(18, (.ofNat 1))]), .inl ((.ofNat 0), [(19, (.ofNat 1))]), .inl ((.ofNat 0), [(20, (.ofNat 1))]), .inl ((.ofNat 0), [(21, (.ofNat 1))]), .inr (5, (.negSucc 2147483647), (.ofNat 2147483647)), .inr (1, (.ofNat 0), (.ofNat 3)), .inl ((.ofNat 0), [(22, (.ofNat 1))]), .inr (2, (.negSucc 2147483647), (.ofNat 2147483647)), .inr (1, (.ofNat 1), (.ofNat 1000)), .inr (1, (.ofNat 0), (.ofNat 50)), .inr (23, (.negSucc 2147483647), (.ofNat 2147483647)), .inl ((.ofNat 0), [(23, (.ofNat 1))]), .inr (39, (.negSucc 2147483647), (.ofNat 2147483647)), .inl ((.ofNat 0), [(24, (.ofNat 1))]), .inr (39, (.negSucc 2147483647), (.ofNat 2147483647)), .inl ((.ofNat 0), [(25, (.ofNat 1))]), .inr (39, (.negSucc 2147483647), (.ofNat 2147483647)), .inl ((.ofNat 0), [(26, (.ofNat 1))]), .inr (517, (.negSucc 2147483647), (.ofNat 2147483647)), .inr (12, (.ofNat 0), (.ofNat 60)), .inr (1, (.ofNat 0), (.ofNat 5)), .inr (1, (.ofNat 0), (.ofNat 39)), .inr (1, (.ofNat 0), (.ofNat 40)), .inr (1, (.ofNat 0), (.ofNat 5)), .inr (1, (.ofNat 0), (.ofNat 39)), .inr (1, (.ofNat 0), (.ofNat 40)), .inr (1, (.ofNat 0), (.ofNat 5)), .inr (1, (.ofNat 0), (.ofNat 39)), .inr (1, (.ofNat 0), (.ofNat 40)), .inr (1, (.ofNat 0), (.ofNat 5)), .inr (1, (.ofNat 0), (.ofNat 39)), .inr (1, (.ofNat 0), (.ofNat 40)), .inr (1, (.ofNat 0), (.ofNat 5)), .inr (1, (.ofNat 0), (.ofNat 39)), .inr (1, (.ofNat 0), (.ofNat 40)), .inr (1, (.ofNat 0), (.ofNat 5)), .inr (1, (.ofNat 0), (.ofNat 39)), .inr (1, (.ofNat 0), (.ofNat 40)), .inr (1, (.ofNat 0), (.ofNat 5)), .inr (1, (.ofNat 0), (.ofNat 39)), .inr (1, (.ofNat 0), (.ofNat 40)), .inr (1, (.ofNat 0), (.ofNat 5)), .inr (1, (.ofNat 0), (.ofNat 39)), .inr (1, (.ofNat 0), (.ofNat 40)), .inr (76, (.negSucc 2147483647), (.ofNat 2147483647)), .inr (2, (.negSucc 2147483647), (.ofNat 2147483647)), .inr (1, (.ofNat 0), (.ofNat 5)), .inr (2, (.negSucc 2147483647), (.ofNat 2147483647)), .inr (2, (.negSucc 2147483647), (.ofNat 2147483647)), .inr (1, (.ofNat 0), (.ofNat 5)), .inr (2, (.negSucc 2147483647), (.ofNat 2147483647)), .inr (2, (.negSucc 2147483647), (.ofNat 2147483647)), .inr (1, (.ofNat 0), (.ofNat 5)), .inr (2, (.negSucc 2147483647), (.ofNat 2147483647)), .inr (2, (.negSucc 2147483647), (.ofNat 2147483647)), .inr (1, (.ofNat 0), (.ofNat 5)), .inr (2, (.negSucc 2147483647), (.ofNat 2147483647)), .inr (2, (.negSucc 2147483647), (.ofNat 2147483647)), .inr (1, (.ofNat 0), (.ofNat 5)), .inr (2, (.negSucc 2147483647), (.ofNat 2147483647)), .inr (2, (.negSucc 2147483647), (.ofNat 2147483647)), .inr (1, (.ofNat 0), (.ofNat 5)), .inr (2, (.negSucc 2147483647), (.ofNat 2147483647)), .inr (2, (.negSucc 2147483647), (.ofNat 2147483647)), .inr (1, (.ofNat 0), (.ofNat 5)), .inr (2, (.negSucc 2147483647), (.ofNat 2147483647)), .inr (2, (.negSucc 2147483647), (.ofNat 2147483647)), .inr (1, (.ofNat 0), (.ofNat 5)), .inr (2, (.negSucc 2147483647), (.ofNat 2147483647)), .inr (60, (.ofNat 0), (.ofNat 127)), .inr (18, (.negSucc 2147483647), (.ofNat 2147483647))]),
    zc60,
    zc634,
    zc62,
    zc63,
    zc30,
    .inr (1, .inr (.inl 70)),
    .inr (1, .inr (.inl 8)),
    zc31,
    zc32,
    zc33,
    zc34,
    zc101,
    .inr (1, .inr (.inl 4))], [(1, [1], []), (2, [1], [])]), 0, 0)])
noncomputable def c154_0_e : List Ct := [c145_0]
noncomputable def c154_0_pts : List PE := []
set_option maxRecDepth 100000 in
theorem c154_0_k : enCtF c154_0 c154_0_e (c154_0_pts ++ []) (none) noH 3000 = true := by decide +kernel
set_option maxRecDepth 100000 in
theorem c154_0_v : ValidC PPk c154_0 := ct_ok fpk noH_ok (d := 1) (ext := []) (pts := c154_0_pts) (env := c154_0_e) rfl (List.forall_mem_cons.mpr ⟨⟨c145_0_v, Nat.le_of_ble_eq_true rfl⟩, fun _ h => (by cases h)⟩) ext_nil (fun q h => (by cases h)) (enF c154_0_k) (fun _ h => (by cases h))

noncomputable def c155_0 : Ct := (155, 2, (35, [(0, (.negSucc 2147483647), (.ofNat 2147483647)), (1, (.negSucc 2147483647), (.ofNat 2147483647)), (2, (.ofNat 0), (.ofNat 69)), (3, (.ofNat 0), (.ofNat 69)), (4, (.ofNat 0), (.ofNat 8)), (5, (.negSucc 2147483647), (.ofNat 2147483647)), (6, (.negSucc 2147483647), (.ofNat 2147483647)), (7, (.negSucc 2147483647), (.ofNat 2147483647)), (8, (.negSucc 2147483647), (.ofNat 2147483647)), (9, (.negSucc 2147483647), (.ofNat 2147483647)), (10, (.negSucc 2147483647), (.ofNat 2147483647)), (11, (.negSucc 2147483647), (.ofNat 2147483647)), (12, (.ofNat 1), (.ofNat 4)), (13, (.ofNat 0), (.ofNat 60)), (14, (.ofNat 0), (.ofNat 8)), (15, (.ofNat 0), (.ofNat 6)), (16, (.ofNat 0), (.ofNat 8)), (17, (.ofNat 0), (.ofNat 60)), (18, (.ofNat 0), (.ofNat 60)), (19, (.ofNat 0), (.ofNat 10)), (20, (.negSucc 2147483647), (.ofNat 2147483647)), (21, (.ofNat 0), (.ofNat 1)), (22, (.ofNat 0), (.ofNat 1)), (23, (.ofNat 0), (.ofNat 1)), (24, (.ofNat 0), (.ofNat 1))], [((.ofNat 1), [(21, (.negSucc 0)), (22, (.negSucc 0)), (23, (.negSucc 0)), (24, (.negSucc 0))])], [.inr (.inl (some 0)), .inl (false, ((.ofNat 0), [(0, (.ofNat 1))])), .inl (false, ((.ofNat 0), [(1, (.ofNat 1))]))], [zc638,
    zc639,
    zc97,
    zc640,
    zc60,
    zc61,
    zc62,
    .inr (1, .inr (.inl 70)),
    .inr (1, .inr (.inl 8)),
    zc63,
    zc30,
    zc31,
    zc32,
    zc33,
    .inr (1, .inr (.inl 4))], [(1, [1], []), (2, [1], [])]),
  [((36, [(35, (.negSucc 1), (.ofNat 1))], [], [.inl (false, ((.ofNat 0), [(35, (.ofNat 1))]))], [zc638,
    zc639,
    zc97,
    zc640,
    zc60,
    zc61,
    zc62,
    .inr (1, .inr (.inl 70)),
    .inr (1, .inr (.inl 8)),
    zc63,
    zc30,
    zc31,
    zc32,
    zc33,
    .inr (1, .inr (.inl 4))], [(1, [1], []), (2, [1], [])]), 0, 0)])
noncomputable def c155_0_e : List Ct := [c145_0]
noncomputable def c155_0_pts : List PE := []
set_option maxRecDepth 100000 in
theorem c155_0_k : enCtF c155_0 c155_0_e (c155_0_pts ++ []) (none) noH 3000 = true := by decide +kernel
set_option maxRecDepth 100000 in
theorem c155_0_v : ValidC PPk c155_0 := ct_ok fpk noH_ok (d := 1) (ext := []) (pts := c155_0_pts) (env := c155_0_e) rfl (List.forall_mem_cons.mpr ⟨⟨c145_0_v, Nat.le_of_ble_eq_true rfl⟩, fun _ h => (by cases h)⟩) ext_nil (fun q h => (by cases h)) (enF c155_0_k) (fun _ h => (by cases h))

noncomputable def c156_0 : Ct := (156, 2, (36, [(0, (.negSucc 2147483647), (.ofNat 2147483647)), (1, (.negSucc 2147483647), (.ofNat 2147483647)), (2, (.negSucc 2147483647), (.ofNat 2147483647)), (3, (.ofNat 0), (.ofNat 69)), (4, (.ofNat 0), (.ofNat 69)), (5, (.ofNat 0), (.ofNat 8)), (6, (.negSucc 2147483647), (.ofNat 2147483647)), (7, (.negSucc 2147483647), (.ofNat 2147483647)), (8, (.negSucc 2147483647), (.ofNat 2147483647)), (9, (.negSucc 2147483647), (.ofNat 2147483647)), (10, (.negSucc 2147483647), (.ofNat 2147483647)), (11, (.negSucc 2147483647), (.ofNat 2147483647)), (12, (.negSucc 2147483647), (.ofNat 2147483647)), (13, (.ofNat 1), (.ofNat 4)), (14, (.ofNat 0), (.ofNat 60)), (15, (.ofNat 0), (.ofNat 8)), (16, (.ofNat 0), (.ofNat 6)), (17, (.ofNat 0), (.ofNat 8)), (18, (.ofNat 0), (.ofNat 60)), (19, (.ofNat 0), (.ofNat 60)), (20, (.ofNat 0), (.ofNat 10)), (21, (.negSucc 2147483647), (.ofNat 2147483647)), (22, (.ofNat 0), (.ofNat 1)), (23, (.ofNat 0), (.ofNat 1)), (24, (.ofNat 0), (.ofNat 1)), (25, (.ofNat 0), (.ofNat 1))], [((.ofNat 1), [(22, (.negSucc 0)), (23, (.negSucc 0)), (24, (.negSucc 0)), (25, (.negSucc 0))])], [.inr (.inl (some 0)), .inl (false, ((.ofNat 0), [(0, (.ofNat 1))])), .inl (false, ((.ofNat 0), [(1, (.ofNat 1))])), .inl (false, ((.ofNat 0), [(2, (.ofNat 1))]))], [zc628,
    zc629,
    zc59,
    zc630,
    zc61,
    zc62,
    zc63,
    .inr (1, .inr (.inl 70)),
    .inr (1, .inr (.inl 8)),
    zc30,
    zc31,
    zc32,
    zc33,
    zc34,
    .inr (1, .inr (.inl 4))], [(1, [1], []), (2, [1], [])]),
  [((37, [(36, (.negSucc 1), (.ofNat 1))], [], [.inl (false, ((.ofNat 0), [(36, (.ofNat 1))]))], [zc628,
    zc629,
    zc59,
    zc630,
    zc61,
    zc62,
    zc63,
    .inr (1, .inr (.inl 70)),
    .inr (1, .inr (.inl 8)),
    zc30,
    zc31,
    zc32,
    zc33,
    zc34,
    .inr (1, .inr (.inl 4))], [(1, [1], []), (2, [1], [])]), 0, 0)])
noncomputable def c156_0_e : List Ct := [c145_0]
noncomputable def c156_0_pts : List PE := []
set_option maxRecDepth 100000 in
theorem c156_0_k : enCtF c156_0 c156_0_e (c156_0_pts ++ []) (none) noH 3000 = true := by decide +kernel
set_option maxRecDepth 100000 in
theorem c156_0_v : ValidC PPk c156_0 := ct_ok fpk noH_ok (d := 1) (ext := []) (pts := c156_0_pts) (env := c156_0_e) rfl (List.forall_mem_cons.mpr ⟨⟨c145_0_v, Nat.le_of_ble_eq_true rfl⟩, fun _ h => (by cases h)⟩) ext_nil (fun q h => (by cases h)) (enF c156_0_k) (fun _ h => (by cases h))

noncomputable def c157_0 : Ct := (157, 2, (36, [(0, (.negSucc 2147483647), (.ofNat 2147483647)), (1, (.negSucc 2147483647), (.ofNat 2147483647)), (2, (.negSucc 2147483647), (.ofNat 2147483647)), (3, (.ofNat 0), (.ofNat 69)), (4, (.ofNat 0), (.ofNat 69)), (5, (.ofNat 0), (.ofNat 8)), (6, (.negSucc 2147483647), (.ofNat 2147483647)), (7, (.negSucc 2147483647), (.ofNat 2147483647)), (8, (.negSucc 2147483647), (.ofNat 2147483647)), (9, (.negSucc 2147483647), (.ofNat 2147483647)), (10, (.negSucc 2147483647), (.ofNat 2147483647)), (11, (.negSucc 2147483647), (.ofNat 2147483647)), (12, (.negSucc 2147483647), (.ofNat 2147483647)), (13, (.ofNat 1), (.ofNat 4)), (14, (.ofNat 0), (.ofNat 60)), (15, (.ofNat 0), (.ofNat 8)), (16, (.ofNat 0), (.ofNat 6)), (17, (.ofNat 0), (.ofNat 8)), (18, (.ofNat 0), (.ofNat 60)), (19, (.ofNat 0), (.ofNat 60)), (20, (.ofNat 0), (.ofNat 10)), (21, (.negSucc 2147483647), (.ofNat 2147483647)), (22, (.ofNat 0), (.ofNat 1)), (23, (.ofNat 0), (.ofNat 1)), (24, (.ofNat 0), (.ofNat 1)), (25, (.ofNat 0), (.ofNat 1))], [((.ofNat 1), [(22, (.negSucc 0)), (23, (.negSucc 0)), (24, (.negSucc 0)), (25, (.negSucc 0))])], [.inr (.inl (some 0)), .inl (false, ((.ofNat 0), [(0, (.ofNat 1))])), .inl (false, ((.ofNat 0), [(1, (.ofNat 1))])), .inl (false, ((.ofNat 0), [(2, (.ofNat 1))]))], [zc628,
    zc629,
    zc59,
    zc630,
    zc61,
    zc62,
    zc63,
    .inr (1, .inr (.inl 70)),
    .inr (1, .inr (.inl 8)),
    zc30,
    zc31,
    zc32,
    zc33,
    zc34,
    .inr (1, .inr (.inl 4))], [(1, [1], []), (2, [1], [])]),
  [((37, [(36, (.negSucc 1), (.ofNat 1))], [], [.inl (false, ((.ofNat 0), [(36, (.ofNat 1))]))], [zc628,
    zc629,
    zc59,
    zc630,
    zc61,
    zc62,
    zc63,
    .inr (1, .inr (.inl 70)),
    .inr (1, .inr (.inl 8)),
    zc30,
    zc31,
    zc32,
    zc33,
    zc34,
    .inr (1, .inr (.inl 4))], [(1, [1], []), (2, [1], [])]), 0, 0)])
noncomputable def c157_0_e : List Ct := [c145_0]
noncomputable def c157_0_pts : List PE := []
set_option maxRecDepth 100000 in
theorem c157_0_k : enCtF c157_0 c157_0_e (c157_0_pts ++ []) (none) noH 3000 = true := by decide +kernel
set_option maxRecDepth 100000 in
theorem c157_0_v : ValidC PPk c157_0 := ct_ok fpk noH_ok (d := 1) (ext := []) (pts := c157_0_pts) (env := c157_0_e) rfl (List.forall_mem_cons.mpr ⟨⟨c145_0_v, Nat.le_of_ble_eq_true rfl⟩, fun _ h => (by cases h)⟩) ext_nil (fun q h => (by cases h)) (enF c157_0_k) (fun _ h => (by cases h))

noncomputable def c158_0 : Ct := (158, 2, (34, [(0, (.negSucc 2147483647), (.ofNat 2147483647)), (1, (.ofNat 0), (.ofNat 69)), (2, (.ofNat 0), (.ofNat 69)), (3, (.ofNat 0), (.ofNat 8)), (4, (.negSucc 2147483647), (.ofNat 2147483647)), (5, (.negSucc 2147483647), (.ofNat 2147483647)), (6, (.negSucc 2147483647), (.ofNat 2147483647)), (7, (.negSucc 2147483647), (.ofNat 2147483647)), (8, (.negSucc 2147483647), (.ofNat 2147483647)), (9, (.negSucc 2147483647), (.ofNat 2147483647)), (10, (.negSucc 2147483647), (.ofNat 2147483647)), (11, (.ofNat 1), (.ofNat 4)), (12, (.ofNat 0), (.ofNat 60)), (13, (.ofNat 0), (.ofNat 8)), (14, (.ofNat 0), (.ofNat 6)), (15, (.ofNat 0), (.ofNat 8)), (16, (.ofNat 0), (.ofNat 60)), (17, (.ofNat 0), (.ofNat 60)), (18, (.ofNat 0), (.ofNat 10)), (19, (.negSucc 2147483647), (.ofNat 2147483647)), (20, (.ofNat 0), (.ofNat 1)), (21, (.ofNat 0), (.ofNat 1)), (22, (.ofNat 0), (.ofNat 1)), (23, (.ofNat 0), (.ofNat 1))], [((.ofNat 1), [(20, (.negSucc 0)), (21, (.negSucc 0)), (22, (.negSucc 0)), (23, (.negSucc 0))])], [.inr (.inl (some 0)), .inl (false, ((.ofNat 0), [(0, (.ofNat 1))]))], [zc620,
    zc621,
    zc57,
    zc622,
    zc59,
    zc60,
    zc61,
    .inr (1, .inr (.inl 70)),
    .inr (1, .inr (.inl 8)),
    zc62,
    zc63,
    zc30,
    zc31,
    zc32,
    .inr (1, .inr (.inl 4))], [(1, [1], []), (2, [1], [])]),
  [((36, [(34, (.negSucc 3), (.ofNat 60)), (35, (.ofNat 0), (.ofNat 60))], [], [.inl (false, ((.ofNat 0), [(34, (.ofNat 1))]))], [zc620,
    .inr (0, .inl [.inl ((.ofNat 0), [(11, (.ofNat 1))]), .inl ((.ofNat 0), [(12, (.ofNat 1))]), .inl ((.ofNat 0), [(13, (.ofNat 1))]), .inl ((.ofNat 0), [(14, (.ofNat 1))]), .inl ((.ofNat 0), [(15, (.ofNat 1))]), .inl ((.ofNat 0), [(35, (.ofNat 1))]), .inl ((.ofNat 0), [(17, (.ofNat 1))]), .inl ((.ofNat 0), [(18, (.ofNat 1))]), .inr (5, (.negSucc 2147483647), (.ofNat 2147483647)), .inr (1, (.ofNat 0), (.ofNat 3)), .inl ((.ofNat 0), [(19, (.ofNat 1))]), .inr (2, (.negSucc 2147483647), (.ofNat 2147483647)), .inr (1, (.ofNat 1), (.ofNat 1000)), .inr (1, (.ofNat 0), (.ofNat 50)), .inr (23, (.negSucc 2147483647), (.ofNat 2147483647)), .inl ((.ofNat 0), [(20, (.ofNat 1))]), .inr (39, (.negSucc 2147483647), (.ofNat 2147483647)), .inl ((.ofNat 0), [(21, (.ofNat 1))]), .inr (39, (.negSucc 2147483647), (.ofNat 2147483647)), .inl ((.ofNat 0), [(22, (.ofNat 1))]), .inr (39, (.negSucc 2147483647), (.ofNat 2147483647)), .inl ((.ofNat 0), [(23, (.ofNat 1))]), .inr (517, (.negSucc 2147483647), (.ofNat 2147483647)), .inr (12, (.ofNat 0), (.ofNat 60)), .inr (1, (.ofNat 0), (.ofNat 5)), .inr (1, (.ofNat 0), (.ofNat 39)), .inr (1, (.ofNat 0), (.ofNat 40)), .inr (1, (.ofNat 0), (.ofNat 5)), .inr (1, (.ofNat 0), (.ofNat 39)), .inr (1, (.ofNat 0), (.ofNat 40)), .inr (1, (.ofNat 0), (.ofNat 5)), .inr (1, (.ofNat 0), (.ofNat 39)), .inr (1, (.ofNat 0), (.ofNat 40)), .inr (1, (.ofNat 0), (.ofNat 5)), .inr (1, (.ofNat 0), (.ofNat 39)), .inr (1, (.ofNat 0), (.ofNat 40)), .inr (1, (.ofNat 0), (.ofNat 5)), .inr (1, (.ofNat 0), (.ofNat 39)), .inr (1, (.ofNat 0), (.ofNat 40)), .inr (1, (.ofNat 0), (.ofNat 5)), .inr (1, (.ofNat 0), (.ofNat 39)), .inr (1, (.ofNat 0), (.ofNat 40)), .inr (1, (.ofNat 0), (.ofNat 5)), .inr (1, (.ofNat 0), (.ofNat 39)), .inr (1, (.ofNat 0), (.ofNat 40)), .inr (1, (.ofNat 0), (.ofNat 5)), .inr (1, (.ofNat 0), (.ofNat 39)), .inr (1, (.ofNat 0), (.ofNat 40)), .inr (76, (.negSucc 2147483647), (.ofNat 2147483647)), .inr (2, (.negSucc 2147483647), (.ofNat 2147483647)), .inr (1, (.ofNat 0), (.ofNat 5)), .inr (2, (.negSucc 2147483647), (.ofNat 2147483647)), .inr (2, (.negSucc 2147483647), (.ofNat 2147483647)), .inr (1, (.ofNat 0), (.ofNat 5)), .inr (2, (.negSucc 2147483647), (.ofNat 2147483647)), .inr (2, (.negSucc 2147483647), (.ofNat 2147483647)), .inr (1, (.ofNat 0), (.ofNat 5)), .inr (2, (.negSucc 2147483647), (.ofNat 2147483647)), .inr (2, (.negSucc 2147483647), (.ofNat 2147483647)), .inr (1, (.ofNat 0), (.ofNat 5)), .inr (2, (.negSucc 2147483647), (.ofNat 2147483647)), .inr (2, (.negSucc 2147483647), (.ofNat 2147483647)), .inr (1, (.ofNat 0), (.ofNat 5)), .inr (2, (.negSucc 2147483647), (.ofNat 2147483647)), .inr (2, (.negSucc 2147483647), (.ofNat 2147483647)), .inr (1, (.ofNat 0), (.ofNat 5)), .inr (2, (.negSucc 2147483647), (.ofNat 2147483647)), .inr (2, (.negSucc 2147483647), (.ofNat 2147483647)), .inr (1, (.ofNat 0), (.ofNat 5)), .inr (2, (.negSucc 2147483647), (.ofNat 2147483647)), .inr (2, (.negSucc 2147483647), (.ofNat 2147483647)), .inr (1, (.ofNat 0), (.ofNat 5)), .inr (2, (.negSucc 2147483647), (.ofNat 2147483647)), .inr (60, (.ofNat 0), (.ofNat 127)), .inr (18, (.negSucc 2147483647), (.ofNat 2147483647))]),
    zc57,
    zc622,
    zc59,
    zc60,
    zc61,
    .inr (1, .inr (.inl 70)),
    .inr (1, .inr (.inl 8)),
    zc62,
    zc63,
    zc30,
    zc31,
    zc32,
    .inr (1, .inr (.inl 4))], [(1, [1], []), (2, [1], [])]), 0, 0)])
noncomputable def c158_0_e : List Ct := [c145_0]
noncomputable def c158_0_pts : List PE := []
set_option maxRecDepth 100000 in
theorem c158_0_k : enCtF c158_0 c158_0_e (c158_0_pts ++ []) (none) noH 3000 = true := by decide +kernel
set_option maxRecDepth 100000 in
theorem c158_0_v : ValidC PPk c158_0 := ct_ok fpk noH_ok (d := 1) (ext := []) (pts := c158_0_pts) (env := c158_0_e) rfl (List.forall_mem_cons.mpr ⟨⟨c145_0_v, Nat.le_of_ble_eq_true rfl⟩, fun _ h => (by cases h)⟩) ext_nil (fun q h => (by cases h)) (enF c158_0_k) (fun _ h => (by cases h))

noncomputable def c159_0 : Ct := (159, 1, (33, [(0, (.ofNat 0), (.ofNat 69)), (1, (.ofNat 0), (.ofNat 69)), (2, (.ofNat 0), (.ofNat 8)), (3, (.negSucc 2147483647), (.ofNat 2147483647)), (4, (.negSucc 2147483647), (.ofNat 2147483647)), (5, (.negSucc 2147483647), (.ofNat 2147483647)), (6, (.negSucc 2147483647), (.ofNat 2147483647)), (7, (.negSucc 2147483647), (.ofNat 2147483647)), (8, (.negSucc 2147483647), (.ofNat 2147483647)), (9, (.negSucc 2147483647), (.ofNat 2147483647)), (10, (.ofNat 1), (.ofNat 4)), (11, (.ofNat 0), (.ofNat 60)), (12, (.ofNat 0), (.ofNat 8)), (13, (.ofNat 0), (.ofNat 6)), (14, (.ofNat 0), (.ofNat 8)), (15, (.ofNat 0), (.ofNat 60)), (16, (.ofNat 0), (.ofNat 60)), (17, (.ofNat 0), (.ofNat 10)), (18, (.negSucc 2147483647), (.ofNat 2147483647)), (19, (.ofNat 0), (.ofNat 1)), (20, (.ofNat 0), (.ofNat 1)), (21, (.ofNat 0), (.ofNat 1)), (22, (.ofNat 0), (.ofNat 1))], [((.ofNat 1), [(19, (.negSucc 0)), (20, (.negSucc 0)), (21, (.negSucc 0)), (22, (.negSucc 0))])], [.inr (.inl (some 0))], [zc635,
    zc636,
    zc56,
    zc637,
    zc97,
    zc59,
    zc60,
    .inr (1, .inr (.inl 70)),
    .inr (1, .inr (.inl 8)),
    zc61,
    zc62,
    zc63,
    zc30,
    zc31,
    .inr (1, .inr (.inl 4))], [(1, [1], []), (2, [1], [])]),
  [((33, [], [], [.inl (false, ((.ofNat 0), [(15, (.ofNat 1))]))], [zc635,
    .inr (0, .inl [.inl ((.ofNat 0), [(10, (.ofNat 1))]), .inl ((.ofNat 0), [(11, (.ofNat 1))]), .inl ((.ofNat 0), [(12, (.ofNat 1))]), .inl ((.ofNat 0), [(13, (.ofNat 1))]), .inl ((.ofNat 0), [(14, (.ofNat 1))]), .inl ((.ofNat 0), []), .inl ((.ofNat 0), [(16, (.ofNat 1))]), .inl ((.ofNat 0), [(17, (.ofNat 1))]), .inr (5, (.negSucc 2147483647), (.ofNat 2147483647)), .inr (1, (.ofNat 0), (.ofNat 3)), .inl ((.ofNat 0), [(18, (.ofNat 1))]), .inr (2, (.negSucc 2147483647), (.ofNat 2147483647)), .inr (1, (.ofNat 1), (.ofNat 1000)), .inr (1, (.ofNat 0), (.ofNat 50)), .inr (23, (.negSucc 2147483647), (.ofNat 2147483647)), .inl ((.ofNat 0), [(19, (.ofNat 1))]), .inr (39, (.negSucc 2147483647), (.ofNat 2147483647)), .inl ((.ofNat 0), [(20, (.ofNat 1))]), .inr (39, (.negSucc 2147483647), (.ofNat 2147483647)), .inl ((.ofNat 0), [(21, (.ofNat 1))]), .inr (39, (.negSucc 2147483647), (.ofNat 2147483647)), .inl ((.ofNat 0), [(22, (.ofNat 1))]), .inr (517, (.negSucc 2147483647), (.ofNat 2147483647)), .inr (12, (.ofNat 0), (.ofNat 60)), .inr (1, (.ofNat 0), (.ofNat 5)), .inr (1, (.ofNat 0), (.ofNat 39)), .inr (1, (.ofNat 0), (.ofNat 40)), .inr (1, (.ofNat 0), (.ofNat 5)), .inr (1, (.ofNat 0), (.ofNat 39)), .inr (1, (.ofNat 0), (.ofNat 40)), .inr (1, (.ofNat 0), (.ofNat 5)), .inr (1, (.ofNat 0), (.ofNat 39)), .inr (1, (.ofNat 0), (.ofNat 40)), .inr (1, (.ofNat 0), (.ofNat 5)), .inr (1, (.ofNat 0), (.ofNat 39)), .inr (1, (.ofNat 0), (.ofNat 40)), .inr (1, (.ofNat 0), (.ofNat 5)), .inr (1, (.ofNat 0), (.ofNat 39)), .inr (1, (.ofNat 0), (.ofNat 40)), .inr (1, (.ofNat 0), (.ofNat 5)), .inr (1, (.ofNat 0), (.ofNat 39)), .inr (1, (.ofNat 0), (.ofNat 40)), .inr (1, (.ofNat 0), (.ofNat 5)), .inr (1, (.ofNat 0), (.ofNat 39)), .inr (1, (.ofNat 0), (.ofNat 40)), .inr (1, (.ofNat 0), (.ofNat 5)), .inr (1, (.ofNat 0), (.ofNat 39)), .inr (1, (.ofNat 0), (.ofNat 40)), .inr (76, (.negSucc 2147483647), (.ofNat 2147483647)), .inr (2, (.negSucc 2147483647), (.ofNat 2147483647)), .inr (1, (.ofNat 0), (.ofNat 5)), .inr (2, (.negSucc 2147483647), (.ofNat 2147483647)), .inr (2, (.negSucc 2147483647), (.ofNat 2147483647)), .inr (1, (.ofNat 0), (.ofNat 5)), .inr (2, (.negSucc 2147483647), (.ofNat 2147483647)), .inr (2, (.negSucc 2147483647), (.ofNat 2147483647)), .inr (1, (.ofNat 0), (.ofNat 5)), .inr (2, (.negSucc 2147483647), (.ofNat 2147483647)), .inr (2, (.negSucc 2147483647), (.ofNat 2147483647)), .inr (1, (.ofNat 0), (.ofNat 5)), .inr (2, (.negSucc 2147483647), (.ofNat 2147483647)), .inr (2, (.negSucc 2147483647), (.ofNat 2147483647)), .inr (1, (.ofNat 0), (.ofNat 5)), .inr (2, (.negSucc 2147483647), (.ofNat 2147483647)), .inr (2, (.negSucc 2147483647), (.ofNat 2147483647)), .inr (1, (.ofNat 0), (.ofNat 5)), .inr (2, (.negSucc 2147483647), (.ofNat 2147483647)), .inr (2, (.negSucc 2147483647), (.ofNat 2147483647)), .inr (1, (.ofNat 0), (.ofNat 5)), .inr (2, (.negSucc 2147483647), (.ofNat 2147483647)), .inr (2, (.negSucc 2147483647), (.ofNat 2147483647)), .inr (1, (.ofNat 0), (.ofNat 5)), .inr (2, (.negSucc 2147483647), (.ofNat 2147483647)), .inr (60, (.ofNat 0), (.ofNat 127)), .inr (18, (.negSucc 2147483647), (.ofNat 2147483647))]),
    zc56,
    zc637,
    zc97,
    zc59,
    zc60,
    .inr (1, .inr (.inl 70)),
    .inr (1, .inr (.inl 8)),
    zc61,
    zc62,
    zc63,
    zc30,
    zc31,
    .inr (1, .inr (.inl 4))], [(1, [1], []), (2, [1], [])]), 0, 0)])
noncomputable def c159_0_e : List Ct := []
noncomputable def c159_0_pts : List PE := []
set_option maxRecDepth 100000 in
theorem c159_0_k : enCtF c159_0 c159_0_e (c159_0_pts ++ []) (none) noH 3000 = true := by decide +kernel
set_option maxRecDepth 100000 in
theorem c159_0_v : ValidC PPk c159_0 := ct_ok fpk noH_ok (d := 0) (ext := []) (pts := c159_0_pts) (env := c159_0_e) rfl (fun _ h => (by cases h)) ext_nil (fun q h => (by cases h)) (enF c159_0_k) (fun _ h => (by cases h))

noncomputable def c163_0 : Ct := (163, 1, (1, [(0, (.negSucc 2147483647), (.ofNat 2147483647))], [], [.inl (false, ((.ofNat 0), [(0, (.ofNat 1))]))], [], []),
  [((1, [], [], [.inl (false, ((.ofNat 0), []))], [], []), 0, 0),
   ((1, [(0, (.ofNat 2), (.ofNat 3))], [], [.inl (false, ((.ofNat 6), []))], [], []), 0, 0),
   ((1, [(0, (.ofNat 4), (.ofNat 5))], [], [.inl (false, ((.ofNat 5), []))], [], []), 0, 0),
   ((1, [(0, (.ofNat 6), (.ofNat 7))], [], [.inl (false, ((.ofNat 4), []))], [], []), 0, 0),
   ((1, [(0, (.ofNat 8), (.ofNat 10))], [], [.inl (false, ((.ofNat 3), []))], [], []), 0, 0),
   ((1, [(0, (.ofNat 11), (.ofNat 11))], [], [.inl (false, ((.ofNat 2), []))], [], []), 0, 0),
   ((1, [(0, (.ofNat 12), (.ofNat 12))], [], [.inl (false, ((.ofNat 1), []))], [], []), 0, 0)])
noncomputable def c163_0_e : List Ct := []
noncomputable def c163_0_pts : List PE := []
set_option maxRecDepth 100000 in
theorem c163_0_k : enCtF c163_0 c163_0_e (c163_0_pts ++ []) (none) noH 3000 = true := by decide +kernel
set_option maxRecDepth 100000 in
theorem c163_0_v : ValidC PPk c163_0 := ct_ok fpk noH_ok (d := 0) (ext := []) (pts := c163_0_pts) (env := c163_0_e) rfl (fun _ h => (by cases h)) ext_nil (fun q h => (by cases h)) (enF c163_0_k) (fun _ h => (by cases h))

def zc641 : AC := .inr (103, .inl [.inl ((.ofNat 0), [(14, (.ofNat 1))])])
def zc642 : AC := .inr (0, .inl [.inr (70, (.negSucc 2147483647), (.ofNat 2147483647))])
def zc643 : AC := .inl (12, [.inr (.inl (some 1)), .inr (.inl (some 2)), .inr (.inl (some 3)), .inl (false, ((.ofNat 1), [(2, (.ofNat 1))])), .inr (.inl (some 4)), .inr (.inl (some 5)), .inl (false, ((.ofNat 0), [(3, (.ofNat 1))])), .inr (.inl (some 6)), .inr (.inl (some 7)), .inl (false, ((.ofNat 0), [(4, (.ofNat 1))])), .inr (.inl (some 8)), .inl (false, ((.ofNat 0), [(5, (.ofNat 1))])), .inr (.inl (some 9)), .inr (.inl (some 10)), .inr (.inl (some 11)), .inr (.inl (some 12)), .inl (false, ((.ofNat 0), [(6, (.ofNat 1))])), .inl (false, ((.ofNat 0), [(7, (.ofNat 1))])), .inl (false, ((.ofNat 0), [(8, (.ofNat 1))])), .inr (.inl (some 13)), .inl (false, ((.ofNat 0), [(9, (.ofNat 1))])), .inl (false, ((.ofNat 0), [(10, (.ofNat 1))])), .inl (false, ((.ofNat 0), [(11, (.ofNat 1))])), .inr (.inl (some 14))])
noncomputable def c164_0 : Ct := (164, 1, (21, [(0, (.negSucc 2147483647), (.ofNat 2147483647)), (1, (.negSucc 2147483647), (.ofNat 2147483647)), (2, (.ofNat 0), (.ofNat 69)), (3, (.ofNat 0), (.ofNat 69)), (4, (.ofNat 0), (.ofNat 8)), (5, (.negSucc 2147483647), (.ofNat 2147483647)), (6, (.negSucc 2147483647), (.ofNat 2147483647)), (7, (.negSucc 2147483647), (.ofNat 2147483647)), (8, (.negSucc 2147483647), (.ofNat 2147483647)), (9, (.negSucc 2147483647), (.ofNat 2147483647)), (10, (.negSucc 2147483647), (.ofNat 2147483647)), (11, (.negSucc 2147483647), (.ofNat 2147483647))], [], [.inr (.inl (some 0)), .inl (false, ((.ofNat 0), [(0, (.ofNat 1))])), .inl (false, ((.ofNat 0), [(1, (.ofNat 1))]))], [zc638,
    zc118,
    zc46,
    zc641,
    zc642,
    zc642,
    zc48,
    .inr (1, .inr (.inl 70)),
    .inr (1, .inr (.inl 8)),
    zc49,
    zc95,
    zc51,
    zc52,
    zc53,
    .inr (1, .inr (.inl 4))], [(1, [1], []), (2, [1], [])]),
  [((21, [], [], [], [zc643,
    zc118,
    zc46,
    zc641,
    zc642,
    zc642,
    zc48,
    .inr (1, .inr (.inl 70)),
    .inr (1, .inr (.inl 8)),
    zc49,
    zc95,
    zc51,
    zc52,
    zc53,
    .inr (1, .inr (.inl 4))], [(1, [1], []), (2, [1], [])]), 0, 0)])
noncomputable def c164_0_e : List Ct := []
noncomputable def c164_0_pts : List PE := []
set_option maxRecDepth 100000 in
theorem c164_0_k : enCtF c164_0 c164_0_e (c164_0_pts ++ []) (none) ((hOr (hSplit 0 103 ) (hOr (atPc 1 (fConst 4 4 103)) (atPc 30 (fCode 4 103)))), noM, 0, 1073741827, 21) 3000 = true := by decide +kernel
set_option maxRecDepth 100000 in
theorem c164_0_v : ValidC PPk c164_0 := ct_ok fpk ⟨(hOr_ok (hSplit_ok 0 103 ) (hOr_ok (atPc_ok (fConst_ok 4 4 103)) (atPc_ok (fCode_ok 4 103)))), noM_ok⟩ (d := 0) (ext := []) (pts := c164_0_pts) (env := c164_0_e) rfl (fun _ h => (by cases h)) ext_nil (fun q h => (by cases h)) (enF c164_0_k) (fun _ h => (by cases h))
