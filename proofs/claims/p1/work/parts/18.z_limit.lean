/-! ===== both answer alike: limit ===== -/
set_option maxHeartbeats 8000000 in
set_option maxRecDepth 100000 in
theorem both_limit (x1 x2 x3 : Int32) : BothI 30 157 [.int x1, .int x2, .int x3] := by
  by_cases h1 : (x1 : Int32) < 0
  ·
    exact mkI (x := (-2)) (c1 := 0) (s1 := 0) (c2 := 0) (s2 := 0) (by
      refine Rn.of (me := me30) rfl ⟨Nat.le_of_ble_eq_true rfl, rfl⟩ rfl ?_
      refine Ex.steps 3 (S' := (3, [.int 3, .int 0, .int x1], [(0, .ref 0), (1, .int x1), (2, .int x2), (3, .int x3)], hX, 0, 0)) rfl ?_
      refine Ex.call0 (as := [.int x1, .int 0, .int 3]) (rest := []) (r := (some (.int 0))) (c1 := 0) (s1 := 0) rfl rfl rfl rfl (by
        refine Rn.of (me := me12) rfl ⟨Nat.le_of_ble_eq_true rfl, rfl⟩ rfl ?_
        refine Ex.steps 2 (S' := (2, [.int 0, .int x1], [(0, .int x1), (1, .int 0), (2, .int 3)], [], 0, 0)) rfl ?_
        refine Ex.icmp rfl (cT_lt h1) rfl ?_
        refine Ex.steps 1 (S' := (15, [.int 0], [(0, .int x1), (1, .int 0), (2, .int 3)], [], 0, 0)) rfl ?_
        exact Ex.ret rfl rfl) ?_
      refine Ex.steps 0 (S' := (6, [.int 0], [(0, .ref 0), (1, .int x1), (2, .int x2), (3, .int x3)], hX, 0, 0)) rfl ?_
      refine Ex.steps 1 (S' := (33, [], [(0, .ref 0), (1, .int x1), (2, .int x2), (3, .int x3)], hX, 0, 0)) rfl ?_
      refine Ex.steps 1 (S' := (35, [.int (-2)], [(0, .ref 0), (1, .int x1), (2, .int x2), (3, .int x3)], hX, 0, 0)) rfl ?_
      exact Ex.ret rfl rfl) (by
      refine Rn.of (me := me157) rfl ⟨Nat.le_of_ble_eq_true rfl, rfl⟩ rfl ?_
      refine Ex.steps 3 (S' := (3, [.int 3, .int 0, .int x1], [(0, .ref 0), (1, .int x1), (2, .int x2), (3, .int x3)], hM, 0, 0)) rfl ?_
      refine Ex.call0 (as := [.int x1, .int 0, .int 3]) (rest := []) (r := (some (.int 0))) (c1 := 0) (s1 := 0) rfl rfl rfl rfl (by
        refine Rn.of (me := me145) rfl ⟨Nat.le_of_ble_eq_true rfl, rfl⟩ rfl ?_
        refine Ex.steps 2 (S' := (2, [.int 0, .int x1], [(0, .int x1), (1, .int 0), (2, .int 3)], [], 0, 0)) rfl ?_
        refine Ex.icmp rfl (cT_lt h1) rfl ?_
        refine Ex.steps 1 (S' := (15, [.int 0], [(0, .int x1), (1, .int 0), (2, .int 3)], [], 0, 0)) rfl ?_
        exact Ex.ret rfl rfl) ?_
      refine Ex.steps 0 (S' := (6, [.int 0], [(0, .ref 0), (1, .int x1), (2, .int x2), (3, .int x3)], hM, 0, 0)) rfl ?_
      refine Ex.steps 1 (S' := (33, [], [(0, .ref 0), (1, .int x1), (2, .int x2), (3, .int x3)], hM, 0, 0)) rfl ?_
      refine Ex.steps 1 (S' := (35, [.int (-2)], [(0, .ref 0), (1, .int x1), (2, .int x2), (3, .int x3)], hM, 0, 0)) rfl ?_
      exact Ex.ret rfl rfl) (by decide)
  ·
    by_cases h2 : (3 : Int32) < x1
    ·
      exact mkI (x := (-2)) (c1 := 0) (s1 := 0) (c2 := 0) (s2 := 0) (by
        refine Rn.of (me := me30) rfl ⟨Nat.le_of_ble_eq_true rfl, rfl⟩ rfl ?_
        refine Ex.steps 3 (S' := (3, [.int 3, .int 0, .int x1], [(0, .ref 0), (1, .int x1), (2, .int x2), (3, .int x3)], hX, 0, 0)) rfl ?_
        refine Ex.call0 (as := [.int x1, .int 0, .int 3]) (rest := []) (r := (some (.int 0))) (c1 := 0) (s1 := 0) rfl rfl rfl rfl (by
          refine Rn.of (me := me12) rfl ⟨Nat.le_of_ble_eq_true rfl, rfl⟩ rfl ?_
          refine Ex.steps 2 (S' := (2, [.int 0, .int x1], [(0, .int x1), (1, .int 0), (2, .int 3)], [], 0, 0)) rfl ?_
          refine Ex.icmp rfl (cF_lt h1) rfl ?_
          refine Ex.steps 2 (S' := (7, [.int 3, .int x1], [(0, .int x1), (1, .int 0), (2, .int 3)], [], 0, 0)) rfl ?_
          refine Ex.icmp rfl (cT_gt h2) rfl ?_
          refine Ex.steps 1 (S' := (15, [.int 0], [(0, .int x1), (1, .int 0), (2, .int 3)], [], 0, 0)) rfl ?_
          exact Ex.ret rfl rfl) ?_
        refine Ex.steps 0 (S' := (6, [.int 0], [(0, .ref 0), (1, .int x1), (2, .int x2), (3, .int x3)], hX, 0, 0)) rfl ?_
        refine Ex.steps 1 (S' := (33, [], [(0, .ref 0), (1, .int x1), (2, .int x2), (3, .int x3)], hX, 0, 0)) rfl ?_
        refine Ex.steps 1 (S' := (35, [.int (-2)], [(0, .ref 0), (1, .int x1), (2, .int x2), (3, .int x3)], hX, 0, 0)) rfl ?_
        exact Ex.ret rfl rfl) (by
        refine Rn.of (me := me157) rfl ⟨Nat.le_of_ble_eq_true rfl, rfl⟩ rfl ?_
        refine Ex.steps 3 (S' := (3, [.int 3, .int 0, .int x1], [(0, .ref 0), (1, .int x1), (2, .int x2), (3, .int x3)], hM, 0, 0)) rfl ?_
        refine Ex.call0 (as := [.int x1, .int 0, .int 3]) (rest := []) (r := (some (.int 0))) (c1 := 0) (s1 := 0) rfl rfl rfl rfl (by
          refine Rn.of (me := me145) rfl ⟨Nat.le_of_ble_eq_true rfl, rfl⟩ rfl ?_
          refine Ex.steps 2 (S' := (2, [.int 0, .int x1], [(0, .int x1), (1, .int 0), (2, .int 3)], [], 0, 0)) rfl ?_
          refine Ex.icmp rfl (cF_lt h1) rfl ?_
          refine Ex.steps 2 (S' := (7, [.int 3, .int x1], [(0, .int x1), (1, .int 0), (2, .int 3)], [], 0, 0)) rfl ?_
          refine Ex.icmp rfl (cT_gt h2) rfl ?_
          refine Ex.steps 1 (S' := (15, [.int 0], [(0, .int x1), (1, .int 0), (2, .int 3)], [], 0, 0)) rfl ?_
          exact Ex.ret rfl rfl) ?_
        refine Ex.steps 0 (S' := (6, [.int 0], [(0, .ref 0), (1, .int x1), (2, .int x2), (3, .int x3)], hM, 0, 0)) rfl ?_
        refine Ex.steps 1 (S' := (33, [], [(0, .ref 0), (1, .int x1), (2, .int x2), (3, .int x3)], hM, 0, 0)) rfl ?_
        refine Ex.steps 1 (S' := (35, [.int (-2)], [(0, .ref 0), (1, .int x1), (2, .int x2), (3, .int x3)], hM, 0, 0)) rfl ?_
        exact Ex.ret rfl rfl) (by decide)
    ·
      by_cases h3 : (x2 : Int32) < (-1000)
      ·
        exact mkI (x := (-2)) (c1 := 0) (s1 := 0) (c2 := 0) (s2 := 0) (by
          refine Rn.of (me := me30) rfl ⟨Nat.le_of_ble_eq_true rfl, rfl⟩ rfl ?_
          refine Ex.steps 3 (S' := (3, [.int 3, .int 0, .int x1], [(0, .ref 0), (1, .int x1), (2, .int x2), (3, .int x3)], hX, 0, 0)) rfl ?_
          refine Ex.call0 (as := [.int x1, .int 0, .int 3]) (rest := []) (r := (some (.int 1))) (c1 := 0) (s1 := 0) rfl rfl rfl rfl (by
            refine Rn.of (me := me12) rfl ⟨Nat.le_of_ble_eq_true rfl, rfl⟩ rfl ?_
            refine Ex.steps 2 (S' := (2, [.int 0, .int x1], [(0, .int x1), (1, .int 0), (2, .int 3)], [], 0, 0)) rfl ?_
            refine Ex.icmp rfl (cF_lt h1) rfl ?_
            refine Ex.steps 2 (S' := (7, [.int 3, .int x1], [(0, .int x1), (1, .int 0), (2, .int 3)], [], 0, 0)) rfl ?_
            refine Ex.icmp rfl (cF_gt h2) rfl ?_
            refine Ex.steps 2 (S' := (15, [.int 1], [(0, .int x1), (1, .int 0), (2, .int 3)], [], 0, 0)) rfl ?_
            exact Ex.ret rfl rfl) ?_
          refine Ex.steps 0 (S' := (6, [.int 1], [(0, .ref 0), (1, .int x1), (2, .int x2), (3, .int x3)], hX, 0, 0)) rfl ?_
          refine Ex.steps 1 (S' := (9, [], [(0, .ref 0), (1, .int x1), (2, .int x2), (3, .int x3)], hX, 0, 0)) rfl ?_
          refine Ex.steps 3 (S' := (16, [.int 1000, .int (-1000), .int x2], [(0, .ref 0), (1, .int x1), (2, .int x2), (3, .int x3)], hX, 0, 0)) rfl ?_
          refine Ex.call0 (as := [.int x2, .int (-1000), .int 1000]) (rest := []) (r := (some (.int 0))) (c1 := 0) (s1 := 0) rfl rfl rfl rfl (by
            refine Rn.of (me := me12) rfl ⟨Nat.le_of_ble_eq_true rfl, rfl⟩ rfl ?_
            refine Ex.steps 2 (S' := (2, [.int (-1000), .int x2], [(0, .int x2), (1, .int (-1000)), (2, .int 1000)], [], 0, 0)) rfl ?_
            refine Ex.icmp rfl (cT_lt h3) rfl ?_
            refine Ex.steps 1 (S' := (15, [.int 0], [(0, .int x2), (1, .int (-1000)), (2, .int 1000)], [], 0, 0)) rfl ?_
            exact Ex.ret rfl rfl) ?_
          refine Ex.steps 0 (S' := (19, [.int 0], [(0, .ref 0), (1, .int x1), (2, .int x2), (3, .int x3)], hX, 0, 0)) rfl ?_
          refine Ex.steps 1 (S' := (33, [], [(0, .ref 0), (1, .int x1), (2, .int x2), (3, .int x3)], hX, 0, 0)) rfl ?_
          refine Ex.steps 1 (S' := (35, [.int (-2)], [(0, .ref 0), (1, .int x1), (2, .int x2), (3, .int x3)], hX, 0, 0)) rfl ?_
          exact Ex.ret rfl rfl) (by
          refine Rn.of (me := me157) rfl ⟨Nat.le_of_ble_eq_true rfl, rfl⟩ rfl ?_
          refine Ex.steps 3 (S' := (3, [.int 3, .int 0, .int x1], [(0, .ref 0), (1, .int x1), (2, .int x2), (3, .int x3)], hM, 0, 0)) rfl ?_
          refine Ex.call0 (as := [.int x1, .int 0, .int 3]) (rest := []) (r := (some (.int 1))) (c1 := 0) (s1 := 0) rfl rfl rfl rfl (by
            refine Rn.of (me := me145) rfl ⟨Nat.le_of_ble_eq_true rfl, rfl⟩ rfl ?_
            refine Ex.steps 2 (S' := (2, [.int 0, .int x1], [(0, .int x1), (1, .int 0), (2, .int 3)], [], 0, 0)) rfl ?_
            refine Ex.icmp rfl (cF_lt h1) rfl ?_
            refine Ex.steps 2 (S' := (7, [.int 3, .int x1], [(0, .int x1), (1, .int 0), (2, .int 3)], [], 0, 0)) rfl ?_
            refine Ex.icmp rfl (cF_gt h2) rfl ?_
            refine Ex.steps 2 (S' := (15, [.int 1], [(0, .int x1), (1, .int 0), (2, .int 3)], [], 0, 0)) rfl ?_
            exact Ex.ret rfl rfl) ?_
          refine Ex.steps 0 (S' := (6, [.int 1], [(0, .ref 0), (1, .int x1), (2, .int x2), (3, .int x3)], hM, 0, 0)) rfl ?_
          refine Ex.steps 1 (S' := (9, [], [(0, .ref 0), (1, .int x1), (2, .int x2), (3, .int x3)], hM, 0, 0)) rfl ?_
          refine Ex.steps 3 (S' := (16, [.int 1000, .int (-1000), .int x2], [(0, .ref 0), (1, .int x1), (2, .int x2), (3, .int x3)], hM, 0, 0)) rfl ?_
          refine Ex.call0 (as := [.int x2, .int (-1000), .int 1000]) (rest := []) (r := (some (.int 0))) (c1 := 0) (s1 := 0) rfl rfl rfl rfl (by
            refine Rn.of (me := me145) rfl ⟨Nat.le_of_ble_eq_true rfl, rfl⟩ rfl ?_
            refine Ex.steps 2 (S' := (2, [.int (-1000), .int x2], [(0, .int x2), (1, .int (-1000)), (2, .int 1000)], [], 0, 0)) rfl ?_
            refine Ex.icmp rfl (cT_lt h3) rfl ?_
            refine Ex.steps 1 (S' := (15, [.int 0], [(0, .int x2), (1, .int (-1000)), (2, .int 1000)], [], 0, 0)) rfl ?_
            exact Ex.ret rfl rfl) ?_
          refine Ex.steps 0 (S' := (19, [.int 0], [(0, .ref 0), (1, .int x1), (2, .int x2), (3, .int x3)], hM, 0, 0)) rfl ?_
          refine Ex.steps 1 (S' := (33, [], [(0, .ref 0), (1, .int x1), (2, .int x2), (3, .int x3)], hM, 0, 0)) rfl ?_
          refine Ex.steps 1 (S' := (35, [.int (-2)], [(0, .ref 0), (1, .int x1), (2, .int x2), (3, .int x3)], hM, 0, 0)) rfl ?_
          exact Ex.ret rfl rfl) (by decide)
      ·
        by_cases h4 : (1000 : Int32) < x2
        ·
          exact mkI (x := (-2)) (c1 := 0) (s1 := 0) (c2 := 0) (s2 := 0) (by
            refine Rn.of (me := me30) rfl ⟨Nat.le_of_ble_eq_true rfl, rfl⟩ rfl ?_
            refine Ex.steps 3 (S' := (3, [.int 3, .int 0, .int x1], [(0, .ref 0), (1, .int x1), (2, .int x2), (3, .int x3)], hX, 0, 0)) rfl ?_
            refine Ex.call0 (as := [.int x1, .int 0, .int 3]) (rest := []) (r := (some (.int 1))) (c1 := 0) (s1 := 0) rfl rfl rfl rfl (by
              refine Rn.of (me := me12) rfl ⟨Nat.le_of_ble_eq_true rfl, rfl⟩ rfl ?_
              refine Ex.steps 2 (S' := (2, [.int 0, .int x1], [(0, .int x1), (1, .int 0), (2, .int 3)], [], 0, 0)) rfl ?_
              refine Ex.icmp rfl (cF_lt h1) rfl ?_
              refine Ex.steps 2 (S' := (7, [.int 3, .int x1], [(0, .int x1), (1, .int 0), (2, .int 3)], [], 0, 0)) rfl ?_
              refine Ex.icmp rfl (cF_gt h2) rfl ?_
              refine Ex.steps 2 (S' := (15, [.int 1], [(0, .int x1), (1, .int 0), (2, .int 3)], [], 0, 0)) rfl ?_
              exact Ex.ret rfl rfl) ?_
            refine Ex.steps 0 (S' := (6, [.int 1], [(0, .ref 0), (1, .int x1), (2, .int x2), (3, .int x3)], hX, 0, 0)) rfl ?_
            refine Ex.steps 1 (S' := (9, [], [(0, .ref 0), (1, .int x1), (2, .int x2), (3, .int x3)], hX, 0, 0)) rfl ?_
            refine Ex.steps 3 (S' := (16, [.int 1000, .int (-1000), .int x2], [(0, .ref 0), (1, .int x1), (2, .int x2), (3, .int x3)], hX, 0, 0)) rfl ?_
            refine Ex.call0 (as := [.int x2, .int (-1000), .int 1000]) (rest := []) (r := (some (.int 0))) (c1 := 0) (s1 := 0) rfl rfl rfl rfl (by
              refine Rn.of (me := me12) rfl ⟨Nat.le_of_ble_eq_true rfl, rfl⟩ rfl ?_
              refine Ex.steps 2 (S' := (2, [.int (-1000), .int x2], [(0, .int x2), (1, .int (-1000)), (2, .int 1000)], [], 0, 0)) rfl ?_
              refine Ex.icmp rfl (cF_lt h3) rfl ?_
              refine Ex.steps 2 (S' := (7, [.int 1000, .int x2], [(0, .int x2), (1, .int (-1000)), (2, .int 1000)], [], 0, 0)) rfl ?_
              refine Ex.icmp rfl (cT_gt h4) rfl ?_
              refine Ex.steps 1 (S' := (15, [.int 0], [(0, .int x2), (1, .int (-1000)), (2, .int 1000)], [], 0, 0)) rfl ?_
              exact Ex.ret rfl rfl) ?_
            refine Ex.steps 0 (S' := (19, [.int 0], [(0, .ref 0), (1, .int x1), (2, .int x2), (3, .int x3)], hX, 0, 0)) rfl ?_
            refine Ex.steps 1 (S' := (33, [], [(0, .ref 0), (1, .int x1), (2, .int x2), (3, .int x3)], hX, 0, 0)) rfl ?_
            refine Ex.steps 1 (S' := (35, [.int (-2)], [(0, .ref 0), (1, .int x1), (2, .int x2), (3, .int x3)], hX, 0, 0)) rfl ?_
            exact Ex.ret rfl rfl) (by
            refine Rn.of (me := me157) rfl ⟨Nat.le_of_ble_eq_true rfl, rfl⟩ rfl ?_
            refine Ex.steps 3 (S' := (3, [.int 3, .int 0, .int x1], [(0, .ref 0), (1, .int x1), (2, .int x2), (3, .int x3)], hM, 0, 0)) rfl ?_
            refine Ex.call0 (as := [.int x1, .int 0, .int 3]) (rest := []) (r := (some (.int 1))) (c1 := 0) (s1 := 0) rfl rfl rfl rfl (by
              refine Rn.of (me := me145) rfl ⟨Nat.le_of_ble_eq_true rfl, rfl⟩ rfl ?_
              refine Ex.steps 2 (S' := (2, [.int 0, .int x1], [(0, .int x1), (1, .int 0), (2, .int 3)], [], 0, 0)) rfl ?_
              refine Ex.icmp rfl (cF_lt h1) rfl ?_
              refine Ex.steps 2 (S' := (7, [.int 3, .int x1], [(0, .int x1), (1, .int 0), (2, .int 3)], [], 0, 0)) rfl ?_
              refine Ex.icmp rfl (cF_gt h2) rfl ?_
              refine Ex.steps 2 (S' := (15, [.int 1], [(0, .int x1), (1, .int 0), (2, .int 3)], [], 0, 0)) rfl ?_
              exact Ex.ret rfl rfl) ?_
            refine Ex.steps 0 (S' := (6, [.int 1], [(0, .ref 0), (1, .int x1), (2, .int x2), (3, .int x3)], hM, 0, 0)) rfl ?_
            refine Ex.steps 1 (S' := (9, [], [(0, .ref 0), (1, .int x1), (2, .int x2), (3, .int x3)], hM, 0, 0)) rfl ?_
            refine Ex.steps 3 (S' := (16, [.int 1000, .int (-1000), .int x2], [(0, .ref 0), (1, .int x1), (2, .int x2), (3, .int x3)], hM, 0, 0)) rfl ?_
            refine Ex.call0 (as := [.int x2, .int (-1000), .int 1000]) (rest := []) (r := (some (.int 0))) (c1 := 0) (s1 := 0) rfl rfl rfl rfl (by
              refine Rn.of (me := me145) rfl ⟨Nat.le_of_ble_eq_true rfl, rfl⟩ rfl ?_
              refine Ex.steps 2 (S' := (2, [.int (-1000), .int x2], [(0, .int x2), (1, .int (-1000)), (2, .int 1000)], [], 0, 0)) rfl ?_
              refine Ex.icmp rfl (cF_lt h3) rfl ?_
              refine Ex.steps 2 (S' := (7, [.int 1000, .int x2], [(0, .int x2), (1, .int (-1000)), (2, .int 1000)], [], 0, 0)) rfl ?_
              refine Ex.icmp rfl (cT_gt h4) rfl ?_
              refine Ex.steps 1 (S' := (15, [.int 0], [(0, .int x2), (1, .int (-1000)), (2, .int 1000)], [], 0, 0)) rfl ?_
              exact Ex.ret rfl rfl) ?_
            refine Ex.steps 0 (S' := (19, [.int 0], [(0, .ref 0), (1, .int x1), (2, .int x2), (3, .int x3)], hM, 0, 0)) rfl ?_
            refine Ex.steps 1 (S' := (33, [], [(0, .ref 0), (1, .int x1), (2, .int x2), (3, .int x3)], hM, 0, 0)) rfl ?_
            refine Ex.steps 1 (S' := (35, [.int (-2)], [(0, .ref 0), (1, .int x1), (2, .int x2), (3, .int x3)], hM, 0, 0)) rfl ?_
            exact Ex.ret rfl rfl) (by decide)
        ·
          by_cases h5 : (x3 : Int32) < x2
          ·
            exact mkI (x := (-2)) (c1 := 0) (s1 := 0) (c2 := 0) (s2 := 0) (by
              refine Rn.of (me := me30) rfl ⟨Nat.le_of_ble_eq_true rfl, rfl⟩ rfl ?_
              refine Ex.steps 3 (S' := (3, [.int 3, .int 0, .int x1], [(0, .ref 0), (1, .int x1), (2, .int x2), (3, .int x3)], hX, 0, 0)) rfl ?_
              refine Ex.call0 (as := [.int x1, .int 0, .int 3]) (rest := []) (r := (some (.int 1))) (c1 := 0) (s1 := 0) rfl rfl rfl rfl (by
                refine Rn.of (me := me12) rfl ⟨Nat.le_of_ble_eq_true rfl, rfl⟩ rfl ?_
                refine Ex.steps 2 (S' := (2, [.int 0, .int x1], [(0, .int x1), (1, .int 0), (2, .int 3)], [], 0, 0)) rfl ?_
                refine Ex.icmp rfl (cF_lt h1) rfl ?_
                refine Ex.steps 2 (S' := (7, [.int 3, .int x1], [(0, .int x1), (1, .int 0), (2, .int 3)], [], 0, 0)) rfl ?_
                refine Ex.icmp rfl (cF_gt h2) rfl ?_
                refine Ex.steps 2 (S' := (15, [.int 1], [(0, .int x1), (1, .int 0), (2, .int 3)], [], 0, 0)) rfl ?_
                exact Ex.ret rfl rfl) ?_
              refine Ex.steps 0 (S' := (6, [.int 1], [(0, .ref 0), (1, .int x1), (2, .int x2), (3, .int x3)], hX, 0, 0)) rfl ?_
              refine Ex.steps 1 (S' := (9, [], [(0, .ref 0), (1, .int x1), (2, .int x2), (3, .int x3)], hX, 0, 0)) rfl ?_
              refine Ex.steps 3 (S' := (16, [.int 1000, .int (-1000), .int x2], [(0, .ref 0), (1, .int x1), (2, .int x2), (3, .int x3)], hX, 0, 0)) rfl ?_
              refine Ex.call0 (as := [.int x2, .int (-1000), .int 1000]) (rest := []) (r := (some (.int 1))) (c1 := 0) (s1 := 0) rfl rfl rfl rfl (by
                refine Rn.of (me := me12) rfl ⟨Nat.le_of_ble_eq_true rfl, rfl⟩ rfl ?_
                refine Ex.steps 2 (S' := (2, [.int (-1000), .int x2], [(0, .int x2), (1, .int (-1000)), (2, .int 1000)], [], 0, 0)) rfl ?_
                refine Ex.icmp rfl (cF_lt h3) rfl ?_
                refine Ex.steps 2 (S' := (7, [.int 1000, .int x2], [(0, .int x2), (1, .int (-1000)), (2, .int 1000)], [], 0, 0)) rfl ?_
                refine Ex.icmp rfl (cF_gt h4) rfl ?_
                refine Ex.steps 2 (S' := (15, [.int 1], [(0, .int x2), (1, .int (-1000)), (2, .int 1000)], [], 0, 0)) rfl ?_
                exact Ex.ret rfl rfl) ?_
              refine Ex.steps 0 (S' := (19, [.int 1], [(0, .ref 0), (1, .int x1), (2, .int x2), (3, .int x3)], hX, 0, 0)) rfl ?_
              refine Ex.steps 1 (S' := (22, [], [(0, .ref 0), (1, .int x1), (2, .int x2), (3, .int x3)], hX, 0, 0)) rfl ?_
              refine Ex.steps 3 (S' := (27, [.int 1000, .int x2, .int x3], [(0, .ref 0), (1, .int x1), (2, .int x2), (3, .int x3)], hX, 0, 0)) rfl ?_
              refine Ex.call0 (as := [.int x3, .int x2, .int 1000]) (rest := []) (r := (some (.int 0))) (c1 := 0) (s1 := 0) rfl rfl rfl rfl (by
                refine Rn.of (me := me12) rfl ⟨Nat.le_of_ble_eq_true rfl, rfl⟩ rfl ?_
                refine Ex.steps 2 (S' := (2, [.int x2, .int x3], [(0, .int x3), (1, .int x2), (2, .int 1000)], [], 0, 0)) rfl ?_
                refine Ex.icmp rfl (cT_lt h5) rfl ?_
                refine Ex.steps 1 (S' := (15, [.int 0], [(0, .int x3), (1, .int x2), (2, .int 1000)], [], 0, 0)) rfl ?_
                exact Ex.ret rfl rfl) ?_
              refine Ex.steps 0 (S' := (30, [.int 0], [(0, .ref 0), (1, .int x1), (2, .int x2), (3, .int x3)], hX, 0, 0)) rfl ?_
              refine Ex.steps 1 (S' := (33, [], [(0, .ref 0), (1, .int x1), (2, .int x2), (3, .int x3)], hX, 0, 0)) rfl ?_
              refine Ex.steps 1 (S' := (35, [.int (-2)], [(0, .ref 0), (1, .int x1), (2, .int x2), (3, .int x3)], hX, 0, 0)) rfl ?_
              exact Ex.ret rfl rfl) (by
              refine Rn.of (me := me157) rfl ⟨Nat.le_of_ble_eq_true rfl, rfl⟩ rfl ?_
              refine Ex.steps 3 (S' := (3, [.int 3, .int 0, .int x1], [(0, .ref 0), (1, .int x1), (2, .int x2), (3, .int x3)], hM, 0, 0)) rfl ?_
              refine Ex.call0 (as := [.int x1, .int 0, .int 3]) (rest := []) (r := (some (.int 1))) (c1 := 0) (s1 := 0) rfl rfl rfl rfl (by
                refine Rn.of (me := me145) rfl ⟨Nat.le_of_ble_eq_true rfl, rfl⟩ rfl ?_
                refine Ex.steps 2 (S' := (2, [.int 0, .int x1], [(0, .int x1), (1, .int 0), (2, .int 3)], [], 0, 0)) rfl ?_
                refine Ex.icmp rfl (cF_lt h1) rfl ?_
                refine Ex.steps 2 (S' := (7, [.int 3, .int x1], [(0, .int x1), (1, .int 0), (2, .int 3)], [], 0, 0)) rfl ?_
                refine Ex.icmp rfl (cF_gt h2) rfl ?_
                refine Ex.steps 2 (S' := (15, [.int 1], [(0, .int x1), (1, .int 0), (2, .int 3)], [], 0, 0)) rfl ?_
                exact Ex.ret rfl rfl) ?_
              refine Ex.steps 0 (S' := (6, [.int 1], [(0, .ref 0), (1, .int x1), (2, .int x2), (3, .int x3)], hM, 0, 0)) rfl ?_
              refine Ex.steps 1 (S' := (9, [], [(0, .ref 0), (1, .int x1), (2, .int x2), (3, .int x3)], hM, 0, 0)) rfl ?_
              refine Ex.steps 3 (S' := (16, [.int 1000, .int (-1000), .int x2], [(0, .ref 0), (1, .int x1), (2, .int x2), (3, .int x3)], hM, 0, 0)) rfl ?_
              refine Ex.call0 (as := [.int x2, .int (-1000), .int 1000]) (rest := []) (r := (some (.int 1))) (c1 := 0) (s1 := 0) rfl rfl rfl rfl (by
                refine Rn.of (me := me145) rfl ⟨Nat.le_of_ble_eq_true rfl, rfl⟩ rfl ?_
                refine Ex.steps 2 (S' := (2, [.int (-1000), .int x2], [(0, .int x2), (1, .int (-1000)), (2, .int 1000)], [], 0, 0)) rfl ?_
                refine Ex.icmp rfl (cF_lt h3) rfl ?_
                refine Ex.steps 2 (S' := (7, [.int 1000, .int x2], [(0, .int x2), (1, .int (-1000)), (2, .int 1000)], [], 0, 0)) rfl ?_
                refine Ex.icmp rfl (cF_gt h4) rfl ?_
                refine Ex.steps 2 (S' := (15, [.int 1], [(0, .int x2), (1, .int (-1000)), (2, .int 1000)], [], 0, 0)) rfl ?_
                exact Ex.ret rfl rfl) ?_
              refine Ex.steps 0 (S' := (19, [.int 1], [(0, .ref 0), (1, .int x1), (2, .int x2), (3, .int x3)], hM, 0, 0)) rfl ?_
              refine Ex.steps 1 (S' := (22, [], [(0, .ref 0), (1, .int x1), (2, .int x2), (3, .int x3)], hM, 0, 0)) rfl ?_
              refine Ex.steps 3 (S' := (27, [.int 1000, .int x2, .int x3], [(0, .ref 0), (1, .int x1), (2, .int x2), (3, .int x3)], hM, 0, 0)) rfl ?_
              refine Ex.call0 (as := [.int x3, .int x2, .int 1000]) (rest := []) (r := (some (.int 0))) (c1 := 0) (s1 := 0) rfl rfl rfl rfl (by
                refine Rn.of (me := me145) rfl ⟨Nat.le_of_ble_eq_true rfl, rfl⟩ rfl ?_
                refine Ex.steps 2 (S' := (2, [.int x2, .int x3], [(0, .int x3), (1, .int x2), (2, .int 1000)], [], 0, 0)) rfl ?_
                refine Ex.icmp rfl (cT_lt h5) rfl ?_
                refine Ex.steps 1 (S' := (15, [.int 0], [(0, .int x3), (1, .int x2), (2, .int 1000)], [], 0, 0)) rfl ?_
                exact Ex.ret rfl rfl) ?_
              refine Ex.steps 0 (S' := (30, [.int 0], [(0, .ref 0), (1, .int x1), (2, .int x2), (3, .int x3)], hM, 0, 0)) rfl ?_
              refine Ex.steps 1 (S' := (33, [], [(0, .ref 0), (1, .int x1), (2, .int x2), (3, .int x3)], hM, 0, 0)) rfl ?_
              refine Ex.steps 1 (S' := (35, [.int (-2)], [(0, .ref 0), (1, .int x1), (2, .int x2), (3, .int x3)], hM, 0, 0)) rfl ?_
              exact Ex.ret rfl rfl) (by decide)
          ·
            by_cases h6 : (1000 : Int32) < x3
            ·
              exact mkI (x := (-2)) (c1 := 0) (s1 := 0) (c2 := 0) (s2 := 0) (by
                refine Rn.of (me := me30) rfl ⟨Nat.le_of_ble_eq_true rfl, rfl⟩ rfl ?_
                refine Ex.steps 3 (S' := (3, [.int 3, .int 0, .int x1], [(0, .ref 0), (1, .int x1), (2, .int x2), (3, .int x3)], hX, 0, 0)) rfl ?_
                refine Ex.call0 (as := [.int x1, .int 0, .int 3]) (rest := []) (r := (some (.int 1))) (c1 := 0) (s1 := 0) rfl rfl rfl rfl (by
                  refine Rn.of (me := me12) rfl ⟨Nat.le_of_ble_eq_true rfl, rfl⟩ rfl ?_
                  refine Ex.steps 2 (S' := (2, [.int 0, .int x1], [(0, .int x1), (1, .int 0), (2, .int 3)], [], 0, 0)) rfl ?_
                  refine Ex.icmp rfl (cF_lt h1) rfl ?_
                  refine Ex.steps 2 (S' := (7, [.int 3, .int x1], [(0, .int x1), (1, .int 0), (2, .int 3)], [], 0, 0)) rfl ?_
                  refine Ex.icmp rfl (cF_gt h2) rfl ?_
                  refine Ex.steps 2 (S' := (15, [.int 1], [(0, .int x1), (1, .int 0), (2, .int 3)], [], 0, 0)) rfl ?_
                  exact Ex.ret rfl rfl) ?_
                refine Ex.steps 0 (S' := (6, [.int 1], [(0, .ref 0), (1, .int x1), (2, .int x2), (3, .int x3)], hX, 0, 0)) rfl ?_
                refine Ex.steps 1 (S' := (9, [], [(0, .ref 0), (1, .int x1), (2, .int x2), (3, .int x3)], hX, 0, 0)) rfl ?_
                refine Ex.steps 3 (S' := (16, [.int 1000, .int (-1000), .int x2], [(0, .ref 0), (1, .int x1), (2, .int x2), (3, .int x3)], hX, 0, 0)) rfl ?_
                refine Ex.call0 (as := [.int x2, .int (-1000), .int 1000]) (rest := []) (r := (some (.int 1))) (c1 := 0) (s1 := 0) rfl rfl rfl rfl (by
                  refine Rn.of (me := me12) rfl ⟨Nat.le_of_ble_eq_true rfl, rfl⟩ rfl ?_
                  refine Ex.steps 2 (S' := (2, [.int (-1000), .int x2], [(0, .int x2), (1, .int (-1000)), (2, .int 1000)], [], 0, 0)) rfl ?_
                  refine Ex.icmp rfl (cF_lt h3) rfl ?_
                  refine Ex.steps 2 (S' := (7, [.int 1000, .int x2], [(0, .int x2), (1, .int (-1000)), (2, .int 1000)], [], 0, 0)) rfl ?_
                  refine Ex.icmp rfl (cF_gt h4) rfl ?_
                  refine Ex.steps 2 (S' := (15, [.int 1], [(0, .int x2), (1, .int (-1000)), (2, .int 1000)], [], 0, 0)) rfl ?_
                  exact Ex.ret rfl rfl) ?_
                refine Ex.steps 0 (S' := (19, [.int 1], [(0, .ref 0), (1, .int x1), (2, .int x2), (3, .int x3)], hX, 0, 0)) rfl ?_
                refine Ex.steps 1 (S' := (22, [], [(0, .ref 0), (1, .int x1), (2, .int x2), (3, .int x3)], hX, 0, 0)) rfl ?_
                refine Ex.steps 3 (S' := (27, [.int 1000, .int x2, .int x3], [(0, .ref 0), (1, .int x1), (2, .int x2), (3, .int x3)], hX, 0, 0)) rfl ?_
                refine Ex.call0 (as := [.int x3, .int x2, .int 1000]) (rest := []) (r := (some (.int 0))) (c1 := 0) (s1 := 0) rfl rfl rfl rfl (by
                  refine Rn.of (me := me12) rfl ⟨Nat.le_of_ble_eq_true rfl, rfl⟩ rfl ?_
                  refine Ex.steps 2 (S' := (2, [.int x2, .int x3], [(0, .int x3), (1, .int x2), (2, .int 1000)], [], 0, 0)) rfl ?_
                  refine Ex.icmp rfl (cF_lt h5) rfl ?_
                  refine Ex.steps 2 (S' := (7, [.int 1000, .int x3], [(0, .int x3), (1, .int x2), (2, .int 1000)], [], 0, 0)) rfl ?_
                  refine Ex.icmp rfl (cT_gt h6) rfl ?_
                  refine Ex.steps 1 (S' := (15, [.int 0], [(0, .int x3), (1, .int x2), (2, .int 1000)], [], 0, 0)) rfl ?_
                  exact Ex.ret rfl rfl) ?_
                refine Ex.steps 0 (S' := (30, [.int 0], [(0, .ref 0), (1, .int x1), (2, .int x2), (3, .int x3)], hX, 0, 0)) rfl ?_
                refine Ex.steps 1 (S' := (33, [], [(0, .ref 0), (1, .int x1), (2, .int x2), (3, .int x3)], hX, 0, 0)) rfl ?_
                refine Ex.steps 1 (S' := (35, [.int (-2)], [(0, .ref 0), (1, .int x1), (2, .int x2), (3, .int x3)], hX, 0, 0)) rfl ?_
                exact Ex.ret rfl rfl) (by
                refine Rn.of (me := me157) rfl ⟨Nat.le_of_ble_eq_true rfl, rfl⟩ rfl ?_
                refine Ex.steps 3 (S' := (3, [.int 3, .int 0, .int x1], [(0, .ref 0), (1, .int x1), (2, .int x2), (3, .int x3)], hM, 0, 0)) rfl ?_
                refine Ex.call0 (as := [.int x1, .int 0, .int 3]) (rest := []) (r := (some (.int 1))) (c1 := 0) (s1 := 0) rfl rfl rfl rfl (by
                  refine Rn.of (me := me145) rfl ⟨Nat.le_of_ble_eq_true rfl, rfl⟩ rfl ?_
                  refine Ex.steps 2 (S' := (2, [.int 0, .int x1], [(0, .int x1), (1, .int 0), (2, .int 3)], [], 0, 0)) rfl ?_
                  refine Ex.icmp rfl (cF_lt h1) rfl ?_
                  refine Ex.steps 2 (S' := (7, [.int 3, .int x1], [(0, .int x1), (1, .int 0), (2, .int 3)], [], 0, 0)) rfl ?_
                  refine Ex.icmp rfl (cF_gt h2) rfl ?_
                  refine Ex.steps 2 (S' := (15, [.int 1], [(0, .int x1), (1, .int 0), (2, .int 3)], [], 0, 0)) rfl ?_
                  exact Ex.ret rfl rfl) ?_
                refine Ex.steps 0 (S' := (6, [.int 1], [(0, .ref 0), (1, .int x1), (2, .int x2), (3, .int x3)], hM, 0, 0)) rfl ?_
                refine Ex.steps 1 (S' := (9, [], [(0, .ref 0), (1, .int x1), (2, .int x2), (3, .int x3)], hM, 0, 0)) rfl ?_
                refine Ex.steps 3 (S' := (16, [.int 1000, .int (-1000), .int x2], [(0, .ref 0), (1, .int x1), (2, .int x2), (3, .int x3)], hM, 0, 0)) rfl ?_
                refine Ex.call0 (as := [.int x2, .int (-1000), .int 1000]) (rest := []) (r := (some (.int 1))) (c1 := 0) (s1 := 0) rfl rfl rfl rfl (by
                  refine Rn.of (me := me145) rfl ⟨Nat.le_of_ble_eq_true rfl, rfl⟩ rfl ?_
                  refine Ex.steps 2 (S' := (2, [.int (-1000), .int x2], [(0, .int x2), (1, .int (-1000)), (2, .int 1000)], [], 0, 0)) rfl ?_
                  refine Ex.icmp rfl (cF_lt h3) rfl ?_
                  refine Ex.steps 2 (S' := (7, [.int 1000, .int x2], [(0, .int x2), (1, .int (-1000)), (2, .int 1000)], [], 0, 0)) rfl ?_
                  refine Ex.icmp rfl (cF_gt h4) rfl ?_
                  refine Ex.steps 2 (S' := (15, [.int 1], [(0, .int x2), (1, .int (-1000)), (2, .int 1000)], [], 0, 0)) rfl ?_
                  exact Ex.ret rfl rfl) ?_
                refine Ex.steps 0 (S' := (19, [.int 1], [(0, .ref 0), (1, .int x1), (2, .int x2), (3, .int x3)], hM, 0, 0)) rfl ?_
                refine Ex.steps 1 (S' := (22, [], [(0, .ref 0), (1, .int x1), (2, .int x2), (3, .int x3)], hM, 0, 0)) rfl ?_
                refine Ex.steps 3 (S' := (27, [.int 1000, .int x2, .int x3], [(0, .ref 0), (1, .int x1), (2, .int x2), (3, .int x3)], hM, 0, 0)) rfl ?_
                refine Ex.call0 (as := [.int x3, .int x2, .int 1000]) (rest := []) (r := (some (.int 0))) (c1 := 0) (s1 := 0) rfl rfl rfl rfl (by
                  refine Rn.of (me := me145) rfl ⟨Nat.le_of_ble_eq_true rfl, rfl⟩ rfl ?_
                  refine Ex.steps 2 (S' := (2, [.int x2, .int x3], [(0, .int x3), (1, .int x2), (2, .int 1000)], [], 0, 0)) rfl ?_
                  refine Ex.icmp rfl (cF_lt h5) rfl ?_
                  refine Ex.steps 2 (S' := (7, [.int 1000, .int x3], [(0, .int x3), (1, .int x2), (2, .int 1000)], [], 0, 0)) rfl ?_
                  refine Ex.icmp rfl (cT_gt h6) rfl ?_
                  refine Ex.steps 1 (S' := (15, [.int 0], [(0, .int x3), (1, .int x2), (2, .int 1000)], [], 0, 0)) rfl ?_
                  exact Ex.ret rfl rfl) ?_
                refine Ex.steps 0 (S' := (30, [.int 0], [(0, .ref 0), (1, .int x1), (2, .int x2), (3, .int x3)], hM, 0, 0)) rfl ?_
                refine Ex.steps 1 (S' := (33, [], [(0, .ref 0), (1, .int x1), (2, .int x2), (3, .int x3)], hM, 0, 0)) rfl ?_
                refine Ex.steps 1 (S' := (35, [.int (-2)], [(0, .ref 0), (1, .int x1), (2, .int x2), (3, .int x3)], hM, 0, 0)) rfl ?_
                exact Ex.ret rfl rfl) (by decide)
            ·
              obtain ⟨k7, hkk7, rfl⟩ := en_b (x := x1) (n := 3) (by decide) h1 h2
              match k7, hkk7 with
              | 0, _ =>
                show BothI 30 157 [.int 0, .int x2, .int x3]
                exact mkI (x := 1) (c1 := 0) (s1 := 0) (c2 := 0) (s2 := 0) (by
                  refine Rn.of (me := me30) rfl ⟨Nat.le_of_ble_eq_true rfl, rfl⟩ rfl ?_
                  refine Ex.steps 3 (S' := (3, [.int 3, .int 0, .int 0], [(0, .ref 0), (1, .int 0), (2, .int x2), (3, .int x3)], hX, 0, 0)) rfl ?_
                  refine Ex.call0 (as := [.int 0, .int 0, .int 3]) (rest := []) (r := (some (.int 1))) (c1 := 0) (s1 := 0) rfl rfl rfl rfl (by
                    refine Rn.of (me := me12) rfl ⟨Nat.le_of_ble_eq_true rfl, rfl⟩ rfl ?_
                    refine Ex.steps 2 (S' := (2, [.int 0, .int 0], [(0, .int 0), (1, .int 0), (2, .int 3)], [], 0, 0)) rfl ?_
                    refine Ex.steps 1 (S' := (5, [], [(0, .int 0), (1, .int 0), (2, .int 3)], [], 0, 0)) rfl ?_
                    refine Ex.steps 2 (S' := (7, [.int 3, .int 0], [(0, .int 0), (1, .int 0), (2, .int 3)], [], 0, 0)) rfl ?_
                    refine Ex.steps 1 (S' := (10, [], [(0, .int 0), (1, .int 0), (2, .int 3)], [], 0, 0)) rfl ?_
                    refine Ex.steps 2 (S' := (15, [.int 1], [(0, .int 0), (1, .int 0), (2, .int 3)], [], 0, 0)) rfl ?_
                    exact Ex.ret rfl rfl) ?_
                  refine Ex.steps 0 (S' := (6, [.int 1], [(0, .ref 0), (1, .int 0), (2, .int x2), (3, .int x3)], hX, 0, 0)) rfl ?_
                  refine Ex.steps 1 (S' := (9, [], [(0, .ref 0), (1, .int 0), (2, .int x2), (3, .int x3)], hX, 0, 0)) rfl ?_
                  refine Ex.steps 3 (S' := (16, [.int 1000, .int (-1000), .int x2], [(0, .ref 0), (1, .int 0), (2, .int x2), (3, .int x3)], hX, 0, 0)) rfl ?_
                  refine Ex.call0 (as := [.int x2, .int (-1000), .int 1000]) (rest := []) (r := (some (.int 1))) (c1 := 0) (s1 := 0) rfl rfl rfl rfl (by
                    refine Rn.of (me := me12) rfl ⟨Nat.le_of_ble_eq_true rfl, rfl⟩ rfl ?_
                    refine Ex.steps 2 (S' := (2, [.int (-1000), .int x2], [(0, .int x2), (1, .int (-1000)), (2, .int 1000)], [], 0, 0)) rfl ?_
                    refine Ex.icmp rfl (cF_lt h3) rfl ?_
                    refine Ex.steps 2 (S' := (7, [.int 1000, .int x2], [(0, .int x2), (1, .int (-1000)), (2, .int 1000)], [], 0, 0)) rfl ?_
                    refine Ex.icmp rfl (cF_gt h4) rfl ?_
                    refine Ex.steps 2 (S' := (15, [.int 1], [(0, .int x2), (1, .int (-1000)), (2, .int 1000)], [], 0, 0)) rfl ?_
                    exact Ex.ret rfl rfl) ?_
                  refine Ex.steps 0 (S' := (19, [.int 1], [(0, .ref 0), (1, .int 0), (2, .int x2), (3, .int x3)], hX, 0, 0)) rfl ?_
                  refine Ex.steps 1 (S' := (22, [], [(0, .ref 0), (1, .int 0), (2, .int x2), (3, .int x3)], hX, 0, 0)) rfl ?_
                  refine Ex.steps 3 (S' := (27, [.int 1000, .int x2, .int x3], [(0, .ref 0), (1, .int 0), (2, .int x2), (3, .int x3)], hX, 0, 0)) rfl ?_
                  refine Ex.call0 (as := [.int x3, .int x2, .int 1000]) (rest := []) (r := (some (.int 1))) (c1 := 0) (s1 := 0) rfl rfl rfl rfl (by
                    refine Rn.of (me := me12) rfl ⟨Nat.le_of_ble_eq_true rfl, rfl⟩ rfl ?_
                    refine Ex.steps 2 (S' := (2, [.int x2, .int x3], [(0, .int x3), (1, .int x2), (2, .int 1000)], [], 0, 0)) rfl ?_
                    refine Ex.icmp rfl (cF_lt h5) rfl ?_
                    refine Ex.steps 2 (S' := (7, [.int 1000, .int x3], [(0, .int x3), (1, .int x2), (2, .int 1000)], [], 0, 0)) rfl ?_
                    refine Ex.icmp rfl (cF_gt h6) rfl ?_
                    refine Ex.steps 2 (S' := (15, [.int 1], [(0, .int x3), (1, .int x2), (2, .int 1000)], [], 0, 0)) rfl ?_
                    exact Ex.ret rfl rfl) ?_
                  refine Ex.steps 0 (S' := (30, [.int 1], [(0, .ref 0), (1, .int 0), (2, .int x2), (3, .int x3)], hX, 0, 0)) rfl ?_
                  refine Ex.steps 1 (S' := (36, [], [(0, .ref 0), (1, .int 0), (2, .int x2), (3, .int x3)], hX, 0, 0)) rfl ?_
                  refine Ex.steps 13 (S' := (57, [.int 1], [(0, .ref 0), (1, .int 0), (2, .int x2), (3, .int x3)], ((hX.set 26 (.inr (0, .inl ([(-100), (-100), (-100), (-100)].set 0 x2)))).set 27 (.inr (0, .inl ([100, 100, 100, 100].set 0 x3)))), 0, 0)) rfl ?_
                  exact Ex.ret rfl rfl) (by
                  refine Rn.of (me := me157) rfl ⟨Nat.le_of_ble_eq_true rfl, rfl⟩ rfl ?_
                  refine Ex.steps 3 (S' := (3, [.int 3, .int 0, .int 0], [(0, .ref 0), (1, .int 0), (2, .int x2), (3, .int x3)], hM, 0, 0)) rfl ?_
                  refine Ex.call0 (as := [.int 0, .int 0, .int 3]) (rest := []) (r := (some (.int 1))) (c1 := 0) (s1 := 0) rfl rfl rfl rfl (by
                    refine Rn.of (me := me145) rfl ⟨Nat.le_of_ble_eq_true rfl, rfl⟩ rfl ?_
                    refine Ex.steps 2 (S' := (2, [.int 0, .int 0], [(0, .int 0), (1, .int 0), (2, .int 3)], [], 0, 0)) rfl ?_
                    refine Ex.steps 1 (S' := (5, [], [(0, .int 0), (1, .int 0), (2, .int 3)], [], 0, 0)) rfl ?_
                    refine Ex.steps 2 (S' := (7, [.int 3, .int 0], [(0, .int 0), (1, .int 0), (2, .int 3)], [], 0, 0)) rfl ?_
                    refine Ex.steps 1 (S' := (10, [], [(0, .int 0), (1, .int 0), (2, .int 3)], [], 0, 0)) rfl ?_
                    refine Ex.steps 2 (S' := (15, [.int 1], [(0, .int 0), (1, .int 0), (2, .int 3)], [], 0, 0)) rfl ?_
                    exact Ex.ret rfl rfl) ?_
                  refine Ex.steps 0 (S' := (6, [.int 1], [(0, .ref 0), (1, .int 0), (2, .int x2), (3, .int x3)], hM, 0, 0)) rfl ?_
                  refine Ex.steps 1 (S' := (9, [], [(0, .ref 0), (1, .int 0), (2, .int x2), (3, .int x3)], hM, 0, 0)) rfl ?_
                  refine Ex.steps 3 (S' := (16, [.int 1000, .int (-1000), .int x2], [(0, .ref 0), (1, .int 0), (2, .int x2), (3, .int x3)], hM, 0, 0)) rfl ?_
                  refine Ex.call0 (as := [.int x2, .int (-1000), .int 1000]) (rest := []) (r := (some (.int 1))) (c1 := 0) (s1 := 0) rfl rfl rfl rfl (by
                    refine Rn.of (me := me145) rfl ⟨Nat.le_of_ble_eq_true rfl, rfl⟩ rfl ?_
                    refine Ex.steps 2 (S' := (2, [.int (-1000), .int x2], [(0, .int x2), (1, .int (-1000)), (2, .int 1000)], [], 0, 0)) rfl ?_
                    refine Ex.icmp rfl (cF_lt h3) rfl ?_
                    refine Ex.steps 2 (S' := (7, [.int 1000, .int x2], [(0, .int x2), (1, .int (-1000)), (2, .int 1000)], [], 0, 0)) rfl ?_
                    refine Ex.icmp rfl (cF_gt h4) rfl ?_
                    refine Ex.steps 2 (S' := (15, [.int 1], [(0, .int x2), (1, .int (-1000)), (2, .int 1000)], [], 0, 0)) rfl ?_
                    exact Ex.ret rfl rfl) ?_
                  refine Ex.steps 0 (S' := (19, [.int 1], [(0, .ref 0), (1, .int 0), (2, .int x2), (3, .int x3)], hM, 0, 0)) rfl ?_
                  refine Ex.steps 1 (S' := (22, [], [(0, .ref 0), (1, .int 0), (2, .int x2), (3, .int x3)], hM, 0, 0)) rfl ?_
                  refine Ex.steps 3 (S' := (27, [.int 1000, .int x2, .int x3], [(0, .ref 0), (1, .int 0), (2, .int x2), (3, .int x3)], hM, 0, 0)) rfl ?_
                  refine Ex.call0 (as := [.int x3, .int x2, .int 1000]) (rest := []) (r := (some (.int 1))) (c1 := 0) (s1 := 0) rfl rfl rfl rfl (by
                    refine Rn.of (me := me145) rfl ⟨Nat.le_of_ble_eq_true rfl, rfl⟩ rfl ?_
                    refine Ex.steps 2 (S' := (2, [.int x2, .int x3], [(0, .int x3), (1, .int x2), (2, .int 1000)], [], 0, 0)) rfl ?_
                    refine Ex.icmp rfl (cF_lt h5) rfl ?_
                    refine Ex.steps 2 (S' := (7, [.int 1000, .int x3], [(0, .int x3), (1, .int x2), (2, .int 1000)], [], 0, 0)) rfl ?_
                    refine Ex.icmp rfl (cF_gt h6) rfl ?_
                    refine Ex.steps 2 (S' := (15, [.int 1], [(0, .int x3), (1, .int x2), (2, .int 1000)], [], 0, 0)) rfl ?_
                    exact Ex.ret rfl rfl) ?_
                  refine Ex.steps 0 (S' := (30, [.int 1], [(0, .ref 0), (1, .int 0), (2, .int x2), (3, .int x3)], hM, 0, 0)) rfl ?_
                  refine Ex.steps 1 (S' := (36, [], [(0, .ref 0), (1, .int 0), (2, .int x2), (3, .int x3)], hM, 0, 0)) rfl ?_
                  refine Ex.steps 21 (S' := (65, [.int 1], [(0, .ref 0), (1, .int 0), (2, .int x2), (3, .int x3)], ((hM.set 1 (.inr (0, .inl ([3, 0, 0, 0, 0, 0, 0, 0, 3, 5, 0, 0, 0, 0, 0, 0, 0, 100, 0, 0, (-1), 0, 0, 0, 0, 0, 0, 0, 0, 0, 0, 0, 0, 0, 0, 0, 0, 0, 0, 0, 0, 0, 1, 0, 0, 0, 0, 0, 0, 0, 0, 0, 0, 0, 0, 0, 0, 0, 0, 0, 0, 0, 0, 0, 0, 0, 0, 0, 0, 0, 0, 0, 0, 0, 0, 0, 0, 0, 0, 0, 0, 0, 1, 0, 0, 0, 0, 0, 0, 0, 0, 0, 0, 0, 0, 0, 0, 0, 0, 0, 0, 0, 0, 0, 0, 0, 0, 0, 0, 0, 0, 0, 0, 0, 0, 0, 0, 0, 0, 0, 0, 0, 1, 0, 0, 0, 0, 0, 0, 0, 0, 0, 0, 0, 0, 0, 0, 0, 0, 0, 0, 0, 0, 0, 0, 0, 0, 0, 0, 0, 0, 0, 0, 0, 0, 0, 0, 0, 0, 0, 0, 0, 1, 0, 0, 0, 0, 0, 0, 0, 0, 0, 0, 0, 0, 0, 0, 0, 0, 0, 0, 0, 0, 0, 0, 0, 0, 0, 0, 0, 0, 0, 0, 0, 0, 0, 0, 0, 0, 0, 0, 0, 0, 0, 0, 0, 0, 0, 0, 0, 0, 0, 0, 0, 0, 0, 0, 0, 0, 0, 0, 0, 0, 0, 0, 0, 0, 0, 0, 0, 0, 0, 0, 0, 0, 0, 0, 0, 0, 0, 0, 0, 0, 0, 0, 0, 0, 0, 0, 0, 0, 0, 0, 0, 0, 0, 0, 0, 0, 0, 0, 0, 0, 0, 0, 0, 0, 0, 0, 0, 0, 0, 0, 0, 0, 0, 0, 0, 0, 0, 0, 0, 0, 0, 0, 0, 0, 0, 0, 0, 0, 0, 0, 0, 0, 0, 0, 0, 0, 0, 0, 0, 0, 0, 0, 0, 0, 0, 0, 0, 0, 0, 0, 0, 0, 0, 0, 0, 0, 0, 0, 0, 0, 0, 0, 0, 0, 0, 0, 0, 0, 0, 0, 0, 0, 0, 0, 0, 0, 0, 0, 0, 0, 0, 0, 0, 0, 0, 0, 0, 0, 0, 0, 0, 0, 0, 0, 0, 0, 0, 0, 0, 0, 0, 0, 0, 0, 0, 0, 0, 0, 0, 0, 0, 0, 0, 0, 0, 0, 0, 0, 0, 0, 0, 0, 0, 0, 0, 0, 0, 0, 0, 0, 0, 0, 0, 0, 0, 0, 0, 0, 0, 0, 0, 0, 0, 0, 0, 0, 0, 0, 0, 0, 0, 0, 0, 0, 0, 0, 0, 0, 0, 0, 0, 0, 0, 0, 0, 0, 0, 0, 0, 0, 0, 0, 0, 0, 0, 0, 0, 0, 0, 0, 0, 0, 0, 0, 0, 0, 0, 0, 0, 0, 0, 0, 0, 0, 0, 0, 0, 0, 0, 0, 0, 0, 0, 0, 0, 0, 0, 0, 0, 0, 0, 0, 0, 0, 0, 0, 0, 0, 0, 0, 0, 0, 0, 0, 0, 0, 0, 0, 0, 0, 0, 0, 0, 0, 0, 0, 0, 0, 0, 0, 0, 0, 0, 0, 0, 0, 0, 0, 0, 0, 0, 0, 0, 0, 0, 0, 0, 0, 0, 0, 0, 0, 0, 0, 0, 0, 0, 0, 0, 0, 0, 0, 0, 0, 0, 0, 0, 0, 0, 0, 0, 0, 0, 0, 0, 0, 0, 0, 0, 0, 0, 0, 0, 0, 0, 0, 0, 0, 0, 0, 0, 0, 0, 0, 0, 0, 0, 0, 0, 0, 0, 0, 0, 0, 0, 0, 0, 0, 0, 0, 0, 0, 0, 0, 0, 0, 0, 0, 0, 0, 0, 0, 0, 0, 0, 0, 0, 0, 0, 0, 0, 0, 0, 0, 0, 0, 0, 0, 0, 0, 0, 0, 0, 0, 0, 0, 0, 0, 0, 0, 0, 0, 0, 0, 0, 0, 0, 0, 0, 0, 0, 0, 0, 0, 0, 0, 0, 0, 0, 0, 0, 0, 0, 0, 0, 0, 0, 0, 0, 0, 0, 0, 0, 0, 0, 0, 0, 0, 0, 0, 0, 0, 0, 0, 0, 0, 0, 0, 0, 0, 0, 0, 0, 0, 0, 0, 0, 0, 0, 0, 0, 0, 0, 0, 0, 0, 0, 0, 0, 0, 0, 0, 0, 0, 0, 0, 0, 0, 0, 0, 0, 0, 0, 0, 0, 0, 0, 0, 0, 0, 0, 0, 0, 0, 0, 0, 0, 0, 0, 0, 0, 0, 0, 0, 0, 0, 0, 0, 0, 0, 0, 0, 0, 0, 0, 0, 0, 0, 0, 0, 0, 0, 0, 0, 0, 0, 0, 0, 0, 0, 0, 0, 0, 0, 0, 0, 0, 0, 0, 0, 0, 0, 0, 0, 0, 0, 0, 0, 0, 0, 0, 0, 0, 0, 0, 0, 0, 0, 0, 0, 0, (-100), 100, (-100), 100, (-100), 100, (-100), 100, 0, 0, 0, 0, 0, 0, 0, 0, 0, 0, 0, 0, 0, 0, 0, 0, 0, 0, 0, 0, 0, 0, 0, 0, 0, 0, 0, 0, 0, 0, 0, 0, 0, 0, 0, 0, 0, 0, 0, 0, 0, 0, 0, 0, 0, 0, 0, 0, 0, 0, 0, 0, 0, 0, 0, 0, 0, 0, 0, 0, 0, 0, 0, 0, 0, 0, 0, 0, 0, 0, 0, 0, 0, 0, 0, 0, 0, 0, 0, 0, 0, 0, 0, 0, 0, 0, 0, 0, 0, 0, 0, 0, 0, 0, 0, 0, 0, 0, 0, 0, 0, 0, 0, 0, 0, 0, 0, 0, 0, 0, 0, 0, 0, 0, 0, 0, 0, 0].set 784 x2)))).set 1 (.inr (0, .inl (([3, 0, 0, 0, 0, 0, 0, 0, 3, 5, 0, 0, 0, 0, 0, 0, 0, 100, 0, 0, (-1), 0, 0, 0, 0, 0, 0, 0, 0, 0, 0, 0, 0, 0, 0, 0, 0, 0, 0, 0, 0, 0, 1, 0, 0, 0, 0, 0, 0, 0, 0, 0, 0, 0, 0, 0, 0, 0, 0, 0, 0, 0, 0, 0, 0, 0, 0, 0, 0, 0, 0, 0, 0, 0, 0, 0, 0, 0, 0, 0, 0, 0, 1, 0, 0, 0, 0, 0, 0, 0, 0, 0, 0, 0, 0, 0, 0, 0, 0, 0, 0, 0, 0, 0, 0, 0, 0, 0, 0, 0, 0, 0, 0, 0, 0, 0, 0, 0, 0, 0, 0, 0, 1, 0, 0, 0, 0, 0, 0, 0, 0, 0, 0, 0, 0, 0, 0, 0, 0, 0, 0, 0, 0, 0, 0, 0, 0, 0, 0, 0, 0, 0, 0, 0, 0, 0, 0, 0, 0, 0, 0, 0, 1, 0, 0, 0, 0, 0, 0, 0, 0, 0, 0, 0, 0, 0, 0, 0, 0, 0, 0, 0, 0, 0, 0, 0, 0, 0, 0, 0, 0, 0, 0, 0, 0, 0, 0, 0, 0, 0, 0, 0, 0, 0, 0, 0, 0, 0, 0, 0, 0, 0, 0, 0, 0, 0, 0, 0, 0, 0, 0, 0, 0, 0, 0, 0, 0, 0, 0, 0, 0, 0, 0, 0, 0, 0, 0, 0, 0, 0, 0, 0, 0, 0, 0, 0, 0, 0, 0, 0, 0, 0, 0, 0, 0, 0, 0, 0, 0, 0, 0, 0, 0, 0, 0, 0, 0, 0, 0, 0, 0, 0, 0, 0, 0, 0, 0, 0, 0, 0, 0, 0, 0, 0, 0, 0, 0, 0, 0, 0, 0, 0, 0, 0, 0, 0, 0, 0, 0, 0, 0, 0, 0, 0, 0, 0, 0, 0, 0, 0, 0, 0, 0, 0, 0, 0, 0, 0, 0, 0, 0, 0, 0, 0, 0, 0, 0, 0, 0, 0, 0, 0, 0, 0, 0, 0, 0, 0, 0, 0, 0, 0, 0, 0, 0, 0, 0, 0, 0, 0, 0, 0, 0, 0, 0, 0, 0, 0, 0, 0, 0, 0, 0, 0, 0, 0, 0, 0, 0, 0, 0, 0, 0, 0, 0, 0, 0, 0, 0, 0, 0, 0, 0, 0, 0, 0, 0, 0, 0, 0, 0, 0, 0, 0, 0, 0, 0, 0, 0, 0, 0, 0, 0, 0, 0, 0, 0, 0, 0, 0, 0, 0, 0, 0, 0, 0, 0, 0, 0, 0, 0, 0, 0, 0, 0, 0, 0, 0, 0, 0, 0, 0, 0, 0, 0, 0, 0, 0, 0, 0, 0, 0, 0, 0, 0, 0, 0, 0, 0, 0, 0, 0, 0, 0, 0, 0, 0, 0, 0, 0, 0, 0, 0, 0, 0, 0, 0, 0, 0, 0, 0, 0, 0, 0, 0, 0, 0, 0, 0, 0, 0, 0, 0, 0, 0, 0, 0, 0, 0, 0, 0, 0, 0, 0, 0, 0, 0, 0, 0, 0, 0, 0, 0, 0, 0, 0, 0, 0, 0, 0, 0, 0, 0, 0, 0, 0, 0, 0, 0, 0, 0, 0, 0, 0, 0, 0, 0, 0, 0, 0, 0, 0, 0, 0, 0, 0, 0, 0, 0, 0, 0, 0, 0, 0, 0, 0, 0, 0, 0, 0, 0, 0, 0, 0, 0, 0, 0, 0, 0, 0, 0, 0, 0, 0, 0, 0, 0, 0, 0, 0, 0, 0, 0, 0, 0, 0, 0, 0, 0, 0, 0, 0, 0, 0, 0, 0, 0, 0, 0, 0, 0, 0, 0, 0, 0, 0, 0, 0, 0, 0, 0, 0, 0, 0, 0, 0, 0, 0, 0, 0, 0, 0, 0, 0, 0, 0, 0, 0, 0, 0, 0, 0, 0, 0, 0, 0, 0, 0, 0, 0, 0, 0, 0, 0, 0, 0, 0, 0, 0, 0, 0, 0, 0, 0, 0, 0, 0, 0, 0, 0, 0, 0, 0, 0, 0, 0, 0, 0, 0, 0, 0, 0, 0, 0, 0, 0, 0, 0, 0, 0, 0, 0, 0, 0, 0, 0, 0, 0, 0, 0, 0, 0, 0, 0, 0, 0, 0, 0, 0, 0, 0, 0, 0, 0, 0, 0, 0, 0, 0, 0, 0, 0, 0, 0, 0, 0, 0, 0, 0, 0, 0, 0, 0, 0, 0, 0, 0, 0, 0, 0, 0, 0, 0, 0, 0, 0, 0, 0, 0, 0, 0, 0, 0, 0, 0, 0, 0, 0, 0, 0, 0, 0, 0, 0, 0, 0, 0, 0, 0, 0, 0, 0, 0, 0, 0, 0, 0, 0, 0, 0, 0, 0, 0, 0, 0, 0, 0, 0, 0, 0, 0, 0, 0, 0, 0, 0, 0, 0, 0, 0, 0, 0, 0, 0, (-100), 100, (-100), 100, (-100), 100, (-100), 100, 0, 0, 0, 0, 0, 0, 0, 0, 0, 0, 0, 0, 0, 0, 0, 0, 0, 0, 0, 0, 0, 0, 0, 0, 0, 0, 0, 0, 0, 0, 0, 0, 0, 0, 0, 0, 0, 0, 0, 0, 0, 0, 0, 0, 0, 0, 0, 0, 0, 0, 0, 0, 0, 0, 0, 0, 0, 0, 0, 0, 0, 0, 0, 0, 0, 0, 0, 0, 0, 0, 0, 0, 0, 0, 0, 0, 0, 0, 0, 0, 0, 0, 0, 0, 0, 0, 0, 0, 0, 0, 0, 0, 0, 0, 0, 0, 0, 0, 0, 0, 0, 0, 0, 0, 0, 0, 0, 0, 0, 0, 0, 0, 0, 0, 0, 0, 0, 0].set 784 x2).set 785 x3)))), 0, 0)) rfl ?_
                  exact Ex.ret rfl rfl) (by decide)
              | 1, _ =>
                show BothI 30 157 [.int 1, .int x2, .int x3]
                exact mkI (x := 1) (c1 := 0) (s1 := 0) (c2 := 0) (s2 := 0) (by
                  refine Rn.of (me := me30) rfl ⟨Nat.le_of_ble_eq_true rfl, rfl⟩ rfl ?_
                  refine Ex.steps 3 (S' := (3, [.int 3, .int 0, .int 1], [(0, .ref 0), (1, .int 1), (2, .int x2), (3, .int x3)], hX, 0, 0)) rfl ?_
                  refine Ex.call0 (as := [.int 1, .int 0, .int 3]) (rest := []) (r := (some (.int 1))) (c1 := 0) (s1 := 0) rfl rfl rfl rfl (by
                    refine Rn.of (me := me12) rfl ⟨Nat.le_of_ble_eq_true rfl, rfl⟩ rfl ?_
                    refine Ex.steps 2 (S' := (2, [.int 0, .int 1], [(0, .int 1), (1, .int 0), (2, .int 3)], [], 0, 0)) rfl ?_
                    refine Ex.steps 1 (S' := (5, [], [(0, .int 1), (1, .int 0), (2, .int 3)], [], 0, 0)) rfl ?_
                    refine Ex.steps 2 (S' := (7, [.int 3, .int 1], [(0, .int 1), (1, .int 0), (2, .int 3)], [], 0, 0)) rfl ?_
                    refine Ex.steps 1 (S' := (10, [], [(0, .int 1), (1, .int 0), (2, .int 3)], [], 0, 0)) rfl ?_
                    refine Ex.steps 2 (S' := (15, [.int 1], [(0, .int 1), (1, .int 0), (2, .int 3)], [], 0, 0)) rfl ?_
                    exact Ex.ret rfl rfl) ?_
                  refine Ex.steps 0 (S' := (6, [.int 1], [(0, .ref 0), (1, .int 1), (2, .int x2), (3, .int x3)], hX, 0, 0)) rfl ?_
                  refine Ex.steps 1 (S' := (9, [], [(0, .ref 0), (1, .int 1), (2, .int x2), (3, .int x3)], hX, 0, 0)) rfl ?_
                  refine Ex.steps 3 (S' := (16, [.int 1000, .int (-1000), .int x2], [(0, .ref 0), (1, .int 1), (2, .int x2), (3, .int x3)], hX, 0, 0)) rfl ?_
                  refine Ex.call0 (as := [.int x2, .int (-1000), .int 1000]) (rest := []) (r := (some (.int 1))) (c1 := 0) (s1 := 0) rfl rfl rfl rfl (by
                    refine Rn.of (me := me12) rfl ⟨Nat.le_of_ble_eq_true rfl, rfl⟩ rfl ?_
                    refine Ex.steps 2 (S' := (2, [.int (-1000), .int x2], [(0, .int x2), (1, .int (-1000)), (2, .int 1000)], [], 0, 0)) rfl ?_
                    refine Ex.icmp rfl (cF_lt h3) rfl ?_
                    refine Ex.steps 2 (S' := (7, [.int 1000, .int x2], [(0, .int x2), (1, .int (-1000)), (2, .int 1000)], [], 0, 0)) rfl ?_
                    refine Ex.icmp rfl (cF_gt h4) rfl ?_
                    refine Ex.steps 2 (S' := (15, [.int 1], [(0, .int x2), (1, .int (-1000)), (2, .int 1000)], [], 0, 0)) rfl ?_
                    exact Ex.ret rfl rfl) ?_
                  refine Ex.steps 0 (S' := (19, [.int 1], [(0, .ref 0), (1, .int 1), (2, .int x2), (3, .int x3)], hX, 0, 0)) rfl ?_
                  refine Ex.steps 1 (S' := (22, [], [(0, .ref 0), (1, .int 1), (2, .int x2), (3, .int x3)], hX, 0, 0)) rfl ?_
                  refine Ex.steps 3 (S' := (27, [.int 1000, .int x2, .int x3], [(0, .ref 0), (1, .int 1), (2, .int x2), (3, .int x3)], hX, 0, 0)) rfl ?_
                  refine Ex.call0 (as := [.int x3, .int x2, .int 1000]) (rest := []) (r := (some (.int 1))) (c1 := 0) (s1 := 0) rfl rfl rfl rfl (by
                    refine Rn.of (me := me12) rfl ⟨Nat.le_of_ble_eq_true rfl, rfl⟩ rfl ?_
                    refine Ex.steps 2 (S' := (2, [.int x2, .int x3], [(0, .int x3), (1, .int x2), (2, .int 1000)], [], 0, 0)) rfl ?_
                    refine Ex.icmp rfl (cF_lt h5) rfl ?_
                    refine Ex.steps 2 (S' := (7, [.int 1000, .int x3], [(0, .int x3), (1, .int x2), (2, .int 1000)], [], 0, 0)) rfl ?_
                    refine Ex.icmp rfl (cF_gt h6) rfl ?_
                    refine Ex.steps 2 (S' := (15, [.int 1], [(0, .int x3), (1, .int x2), (2, .int 1000)], [], 0, 0)) rfl ?_
                    exact Ex.ret rfl rfl) ?_
                  refine Ex.steps 0 (S' := (30, [.int 1], [(0, .ref 0), (1, .int 1), (2, .int x2), (3, .int x3)], hX, 0, 0)) rfl ?_
                  refine Ex.steps 1 (S' := (36, [], [(0, .ref 0), (1, .int 1), (2, .int x2), (3, .int x3)], hX, 0, 0)) rfl ?_
                  refine Ex.steps 13 (S' := (57, [.int 1], [(0, .ref 0), (1, .int 1), (2, .int x2), (3, .int x3)], ((hX.set 26 (.inr (0, .inl ([(-100), (-100), (-100), (-100)].set 1 x2)))).set 27 (.inr (0, .inl ([100, 100, 100, 100].set 1 x3)))), 0, 0)) rfl ?_
                  exact Ex.ret rfl rfl) (by
                  refine Rn.of (me := me157) rfl ⟨Nat.le_of_ble_eq_true rfl, rfl⟩ rfl ?_
                  refine Ex.steps 3 (S' := (3, [.int 3, .int 0, .int 1], [(0, .ref 0), (1, .int 1), (2, .int x2), (3, .int x3)], hM, 0, 0)) rfl ?_
                  refine Ex.call0 (as := [.int 1, .int 0, .int 3]) (rest := []) (r := (some (.int 1))) (c1 := 0) (s1 := 0) rfl rfl rfl rfl (by
                    refine Rn.of (me := me145) rfl ⟨Nat.le_of_ble_eq_true rfl, rfl⟩ rfl ?_
                    refine Ex.steps 2 (S' := (2, [.int 0, .int 1], [(0, .int 1), (1, .int 0), (2, .int 3)], [], 0, 0)) rfl ?_
                    refine Ex.steps 1 (S' := (5, [], [(0, .int 1), (1, .int 0), (2, .int 3)], [], 0, 0)) rfl ?_
                    refine Ex.steps 2 (S' := (7, [.int 3, .int 1], [(0, .int 1), (1, .int 0), (2, .int 3)], [], 0, 0)) rfl ?_
                    refine Ex.steps 1 (S' := (10, [], [(0, .int 1), (1, .int 0), (2, .int 3)], [], 0, 0)) rfl ?_
                    refine Ex.steps 2 (S' := (15, [.int 1], [(0, .int 1), (1, .int 0), (2, .int 3)], [], 0, 0)) rfl ?_
                    exact Ex.ret rfl rfl) ?_
                  refine Ex.steps 0 (S' := (6, [.int 1], [(0, .ref 0), (1, .int 1), (2, .int x2), (3, .int x3)], hM, 0, 0)) rfl ?_
                  refine Ex.steps 1 (S' := (9, [], [(0, .ref 0), (1, .int 1), (2, .int x2), (3, .int x3)], hM, 0, 0)) rfl ?_
                  refine Ex.steps 3 (S' := (16, [.int 1000, .int (-1000), .int x2], [(0, .ref 0), (1, .int 1), (2, .int x2), (3, .int x3)], hM, 0, 0)) rfl ?_
                  refine Ex.call0 (as := [.int x2, .int (-1000), .int 1000]) (rest := []) (r := (some (.int 1))) (c1 := 0) (s1 := 0) rfl rfl rfl rfl (by
                    refine Rn.of (me := me145) rfl ⟨Nat.le_of_ble_eq_true rfl, rfl⟩ rfl ?_
                    refine Ex.steps 2 (S' := (2, [.int (-1000), .int x2], [(0, .int x2), (1, .int (-1000)), (2, .int 1000)], [], 0, 0)) rfl ?_
                    refine Ex.icmp rfl (cF_lt h3) rfl ?_
                    refine Ex.steps 2 (S' := (7, [.int 1000, .int x2], [(0, .int x2), (1, .int (-1000)), (2, .int 1000)], [], 0, 0)) rfl ?_
                    refine Ex.icmp rfl (cF_gt h4) rfl ?_
                    refine Ex.steps 2 (S' := (15, [.int 1], [(0, .int x2), (1, .int (-1000)), (2, .int 1000)], [], 0, 0)) rfl ?_
                    exact Ex.ret rfl rfl) ?_
                  refine Ex.steps 0 (S' := (19, [.int 1], [(0, .ref 0), (1, .int 1), (2, .int x2), (3, .int x3)], hM, 0, 0)) rfl ?_
                  refine Ex.steps 1 (S' := (22, [], [(0, .ref 0), (1, .int 1), (2, .int x2), (3, .int x3)], hM, 0, 0)) rfl ?_
                  refine Ex.steps 3 (S' := (27, [.int 1000, .int x2, .int x3], [(0, .ref 0), (1, .int 1), (2, .int x2), (3, .int x3)], hM, 0, 0)) rfl ?_
                  refine Ex.call0 (as := [.int x3, .int x2, .int 1000]) (rest := []) (r := (some (.int 1))) (c1 := 0) (s1 := 0) rfl rfl rfl rfl (by
                    refine Rn.of (me := me145) rfl ⟨Nat.le_of_ble_eq_true rfl, rfl⟩ rfl ?_
                    refine Ex.steps 2 (S' := (2, [.int x2, .int x3], [(0, .int x3), (1, .int x2), (2, .int 1000)], [], 0, 0)) rfl ?_
                    refine Ex.icmp rfl (cF_lt h5) rfl ?_
                    refine Ex.steps 2 (S' := (7, [.int 1000, .int x3], [(0, .int x3), (1, .int x2), (2, .int 1000)], [], 0, 0)) rfl ?_
                    refine Ex.icmp rfl (cF_gt h6) rfl ?_
                    refine Ex.steps 2 (S' := (15, [.int 1], [(0, .int x3), (1, .int x2), (2, .int 1000)], [], 0, 0)) rfl ?_
                    exact Ex.ret rfl rfl) ?_
                  refine Ex.steps 0 (S' := (30, [.int 1], [(0, .ref 0), (1, .int 1), (2, .int x2), (3, .int x3)], hM, 0, 0)) rfl ?_
                  refine Ex.steps 1 (S' := (36, [], [(0, .ref 0), (1, .int 1), (2, .int x2), (3, .int x3)], hM, 0, 0)) rfl ?_
                  refine Ex.steps 21 (S' := (65, [.int 1], [(0, .ref 0), (1, .int 1), (2, .int x2), (3, .int x3)], ((hM.set 1 (.inr (0, .inl ([3, 0, 0, 0, 0, 0, 0, 0, 3, 5, 0, 0, 0, 0, 0, 0, 0, 100, 0, 0, (-1), 0, 0, 0, 0, 0, 0, 0, 0, 0, 0, 0, 0, 0, 0, 0, 0, 0, 0, 0, 0, 0, 1, 0, 0, 0, 0, 0, 0, 0, 0, 0, 0, 0, 0, 0, 0, 0, 0, 0, 0, 0, 0, 0, 0, 0, 0, 0, 0, 0, 0, 0, 0, 0, 0, 0, 0, 0, 0, 0, 0, 0, 1, 0, 0, 0, 0, 0, 0, 0, 0, 0, 0, 0, 0, 0, 0, 0, 0, 0, 0, 0, 0, 0, 0, 0, 0, 0, 0, 0, 0, 0, 0, 0, 0, 0, 0, 0, 0, 0, 0, 0, 1, 0, 0, 0, 0, 0, 0, 0, 0, 0, 0, 0, 0, 0, 0, 0, 0, 0, 0, 0, 0, 0, 0, 0, 0, 0, 0, 0, 0, 0, 0, 0, 0, 0, 0, 0, 0, 0, 0, 0, 1, 0, 0, 0, 0, 0, 0, 0, 0, 0, 0, 0, 0, 0, 0, 0, 0, 0, 0, 0, 0, 0, 0, 0, 0, 0, 0, 0, 0, 0, 0, 0, 0, 0, 0, 0, 0, 0, 0, 0, 0, 0, 0, 0, 0, 0, 0, 0, 0, 0, 0, 0, 0, 0, 0, 0, 0, 0, 0, 0, 0, 0, 0, 0, 0, 0, 0, 0, 0, 0, 0, 0, 0, 0, 0, 0, 0, 0, 0, 0, 0, 0, 0, 0, 0, 0, 0, 0, 0, 0, 0, 0, 0, 0, 0, 0, 0, 0, 0, 0, 0, 0, 0, 0, 0, 0, 0, 0, 0, 0, 0, 0, 0, 0, 0, 0, 0, 0, 0, 0, 0, 0, 0, 0, 0, 0, 0, 0, 0, 0, 0, 0, 0, 0, 0, 0, 0, 0, 0, 0, 0, 0, 0, 0, 0, 0, 0, 0, 0, 0, 0, 0, 0, 0, 0, 0, 0, 0, 0, 0, 0, 0, 0, 0, 0, 0, 0, 0, 0, 0, 0, 0, 0, 0, 0, 0, 0, 0, 0, 0, 0, 0, 0, 0, 0, 0, 0, 0, 0, 0, 0, 0, 0, 0, 0, 0, 0, 0, 0, 0, 0, 0, 0, 0, 0, 0, 0, 0, 0, 0, 0, 0, 0, 0, 0, 0, 0, 0, 0, 0, 0, 0, 0, 0, 0, 0, 0, 0, 0, 0, 0, 0, 0, 0, 0, 0, 0, 0, 0, 0, 0, 0, 0, 0, 0, 0, 0, 0, 0, 0, 0, 0, 0, 0, 0, 0, 0, 0, 0, 0, 0, 0, 0, 0, 0, 0, 0, 0, 0, 0, 0, 0, 0, 0, 0, 0, 0, 0, 0, 0, 0, 0, 0, 0, 0, 0, 0, 0, 0, 0, 0, 0, 0, 0, 0, 0, 0, 0, 0, 0, 0, 0, 0, 0, 0, 0, 0, 0, 0, 0, 0, 0, 0, 0, 0, 0, 0, 0, 0, 0, 0, 0, 0, 0, 0, 0, 0, 0, 0, 0, 0, 0, 0, 0, 0, 0, 0, 0, 0, 0, 0, 0, 0, 0, 0, 0, 0, 0, 0, 0, 0, 0, 0, 0, 0, 0, 0, 0, 0, 0, 0, 0, 0, 0, 0, 0, 0, 0, 0, 0, 0, 0, 0, 0, 0, 0, 0, 0, 0, 0, 0, 0, 0, 0, 0, 0, 0, 0, 0, 0, 0, 0, 0, 0, 0, 0, 0, 0, 0, 0, 0, 0, 0, 0, 0, 0, 0, 0, 0, 0, 0, 0, 0, 0, 0, 0, 0, 0, 0, 0, 0, 0, 0, 0, 0, 0, 0, 0, 0, 0, 0, 0, 0, 0, 0, 0, 0, 0, 0, 0, 0, 0, 0, 0, 0, 0, 0, 0, 0, 0, 0, 0, 0, 0, 0, 0, 0, 0, 0, 0, 0, 0, 0, 0, 0, 0, 0, 0, 0, 0, 0, 0, 0, 0, 0, 0, 0, 0, 0, 0, 0, 0, 0, 0, 0, 0, 0, 0, 0, 0, 0, 0, 0, 0, 0, 0, 0, 0, 0, 0, 0, 0, 0, 0, 0, 0, 0, 0, 0, 0, 0, 0, 0, 0, 0, 0, 0, 0, 0, 0, 0, 0, 0, 0, 0, 0, 0, 0, 0, 0, 0, 0, 0, 0, 0, 0, 0, 0, 0, 0, 0, 0, 0, 0, 0, 0, 0, 0, 0, 0, 0, 0, 0, 0, 0, 0, 0, 0, 0, 0, 0, 0, 0, 0, 0, 0, 0, 0, 0, 0, 0, 0, 0, 0, 0, 0, 0, 0, 0, 0, 0, 0, 0, 0, 0, 0, 0, 0, 0, 0, 0, 0, 0, 0, 0, 0, 0, 0, 0, 0, 0, 0, 0, 0, 0, 0, 0, 0, 0, 0, 0, 0, 0, 0, 0, 0, 0, 0, 0, 0, 0, 0, (-100), 100, (-100), 100, (-100), 100, (-100), 100, 0, 0, 0, 0, 0, 0, 0, 0, 0, 0, 0, 0, 0, 0, 0, 0, 0, 0, 0, 0, 0, 0, 0, 0, 0, 0, 0, 0, 0, 0, 0, 0, 0, 0, 0, 0, 0, 0, 0, 0, 0, 0, 0, 0, 0, 0, 0, 0, 0, 0, 0, 0, 0, 0, 0, 0, 0, 0, 0, 0, 0, 0, 0, 0, 0, 0, 0, 0, 0, 0, 0, 0, 0, 0, 0, 0, 0, 0, 0, 0, 0, 0, 0, 0, 0, 0, 0, 0, 0, 0, 0, 0, 0, 0, 0, 0, 0, 0, 0, 0, 0, 0, 0, 0, 0, 0, 0, 0, 0, 0, 0, 0, 0, 0, 0, 0, 0, 0].set 786 x2)))).set 1 (.inr (0, .inl (([3, 0, 0, 0, 0, 0, 0, 0, 3, 5, 0, 0, 0, 0, 0, 0, 0, 100, 0, 0, (-1), 0, 0, 0, 0, 0, 0, 0, 0, 0, 0, 0, 0, 0, 0, 0, 0, 0, 0, 0, 0, 0, 1, 0, 0, 0, 0, 0, 0, 0, 0, 0, 0, 0, 0, 0, 0, 0, 0, 0, 0, 0, 0, 0, 0, 0, 0, 0, 0, 0, 0, 0, 0, 0, 0, 0, 0, 0, 0, 0, 0, 0, 1, 0, 0, 0, 0, 0, 0, 0, 0, 0, 0, 0, 0, 0, 0, 0, 0, 0, 0, 0, 0, 0, 0, 0, 0, 0, 0, 0, 0, 0, 0, 0, 0, 0, 0, 0, 0, 0, 0, 0, 1, 0, 0, 0, 0, 0, 0, 0, 0, 0, 0, 0, 0, 0, 0, 0, 0, 0, 0, 0, 0, 0, 0, 0, 0, 0, 0, 0, 0, 0, 0, 0, 0, 0, 0, 0, 0, 0, 0, 0, 1, 0, 0, 0, 0, 0, 0, 0, 0, 0, 0, 0, 0, 0, 0, 0, 0, 0, 0, 0, 0, 0, 0, 0, 0, 0, 0, 0, 0, 0, 0, 0, 0, 0, 0, 0, 0, 0, 0, 0, 0, 0, 0, 0, 0, 0, 0, 0, 0, 0, 0, 0, 0, 0, 0, 0, 0, 0, 0, 0, 0, 0, 0, 0, 0, 0, 0, 0, 0, 0, 0, 0, 0, 0, 0, 0, 0, 0, 0, 0, 0, 0, 0, 0, 0, 0, 0, 0, 0, 0, 0, 0, 0, 0, 0, 0, 0, 0, 0, 0, 0, 0, 0, 0, 0, 0, 0, 0, 0, 0, 0, 0, 0, 0, 0, 0, 0, 0, 0, 0, 0, 0, 0, 0, 0, 0, 0, 0, 0, 0, 0, 0, 0, 0, 0, 0, 0, 0, 0, 0, 0, 0, 0, 0, 0, 0, 0, 0, 0, 0, 0, 0, 0, 0, 0, 0, 0, 0, 0, 0, 0, 0, 0, 0, 0, 0, 0, 0, 0, 0, 0, 0, 0, 0, 0, 0, 0, 0, 0, 0, 0, 0, 0, 0, 0, 0, 0, 0, 0, 0, 0, 0, 0, 0, 0, 0, 0, 0, 0, 0, 0, 0, 0, 0, 0, 0, 0, 0, 0, 0, 0, 0, 0, 0, 0, 0, 0, 0, 0, 0, 0, 0, 0, 0, 0, 0, 0, 0, 0, 0, 0, 0, 0, 0, 0, 0, 0, 0, 0, 0, 0, 0, 0, 0, 0, 0, 0, 0, 0, 0, 0, 0, 0, 0, 0, 0, 0, 0, 0, 0, 0, 0, 0, 0, 0, 0, 0, 0, 0, 0, 0, 0, 0, 0, 0, 0, 0, 0, 0, 0, 0, 0, 0, 0, 0, 0, 0, 0, 0, 0, 0, 0, 0, 0, 0, 0, 0, 0, 0, 0, 0, 0, 0, 0, 0, 0, 0, 0, 0, 0, 0, 0, 0, 0, 0, 0, 0, 0, 0, 0, 0, 0, 0, 0, 0, 0, 0, 0, 0, 0, 0, 0, 0, 0, 0, 0, 0, 0, 0, 0, 0, 0, 0, 0, 0, 0, 0, 0, 0, 0, 0, 0, 0, 0, 0, 0, 0, 0, 0, 0, 0, 0, 0, 0, 0, 0, 0, 0, 0, 0, 0, 0, 0, 0, 0, 0, 0, 0, 0, 0, 0, 0, 0, 0, 0, 0, 0, 0, 0, 0, 0, 0, 0, 0, 0, 0, 0, 0, 0, 0, 0, 0, 0, 0, 0, 0, 0, 0, 0, 0, 0, 0, 0, 0, 0, 0, 0, 0, 0, 0, 0, 0, 0, 0, 0, 0, 0, 0, 0, 0, 0, 0, 0, 0, 0, 0, 0, 0, 0, 0, 0, 0, 0, 0, 0, 0, 0, 0, 0, 0, 0, 0, 0, 0, 0, 0, 0, 0, 0, 0, 0, 0, 0, 0, 0, 0, 0, 0, 0, 0, 0, 0, 0, 0, 0, 0, 0, 0, 0, 0, 0, 0, 0, 0, 0, 0, 0, 0, 0, 0, 0, 0, 0, 0, 0, 0, 0, 0, 0, 0, 0, 0, 0, 0, 0, 0, 0, 0, 0, 0, 0, 0, 0, 0, 0, 0, 0, 0, 0, 0, 0, 0, 0, 0, 0, 0, 0, 0, 0, 0, 0, 0, 0, 0, 0, 0, 0, 0, 0, 0, 0, 0, 0, 0, 0, 0, 0, 0, 0, 0, 0, 0, 0, 0, 0, 0, 0, 0, 0, 0, 0, 0, 0, 0, 0, 0, 0, 0, 0, 0, 0, 0, 0, 0, 0, 0, 0, 0, 0, 0, 0, 0, 0, 0, 0, 0, 0, 0, 0, 0, 0, 0, 0, 0, 0, 0, 0, 0, 0, 0, 0, 0, 0, 0, 0, 0, 0, 0, 0, 0, 0, 0, 0, 0, 0, 0, 0, 0, 0, 0, 0, 0, (-100), 100, (-100), 100, (-100), 100, (-100), 100, 0, 0, 0, 0, 0, 0, 0, 0, 0, 0, 0, 0, 0, 0, 0, 0, 0, 0, 0, 0, 0, 0, 0, 0, 0, 0, 0, 0, 0, 0, 0, 0, 0, 0, 0, 0, 0, 0, 0, 0, 0, 0, 0, 0, 0, 0, 0, 0, 0, 0, 0, 0, 0, 0, 0, 0, 0, 0, 0, 0, 0, 0, 0, 0, 0, 0, 0, 0, 0, 0, 0, 0, 0, 0, 0, 0, 0, 0, 0, 0, 0, 0, 0, 0, 0, 0, 0, 0, 0, 0, 0, 0, 0, 0, 0, 0, 0, 0, 0, 0, 0, 0, 0, 0, 0, 0, 0, 0, 0, 0, 0, 0, 0, 0, 0, 0, 0, 0].set 786 x2).set 787 x3)))), 0, 0)) rfl ?_
                  exact Ex.ret rfl rfl) (by decide)
              | 2, _ =>
                show BothI 30 157 [.int 2, .int x2, .int x3]
                exact mkI (x := 1) (c1 := 0) (s1 := 0) (c2 := 0) (s2 := 0) (by
                  refine Rn.of (me := me30) rfl ⟨Nat.le_of_ble_eq_true rfl, rfl⟩ rfl ?_
                  refine Ex.steps 3 (S' := (3, [.int 3, .int 0, .int 2], [(0, .ref 0), (1, .int 2), (2, .int x2), (3, .int x3)], hX, 0, 0)) rfl ?_
                  refine Ex.call0 (as := [.int 2, .int 0, .int 3]) (rest := []) (r := (some (.int 1))) (c1 := 0) (s1 := 0) rfl rfl rfl rfl (by
                    refine Rn.of (me := me12) rfl ⟨Nat.le_of_ble_eq_true rfl, rfl⟩ rfl ?_
                    refine Ex.steps 2 (S' := (2, [.int 0, .int 2], [(0, .int 2), (1, .int 0), (2, .int 3)], [], 0, 0)) rfl ?_
                    refine Ex.steps 1 (S' := (5, [], [(0, .int 2), (1, .int 0), (2, .int 3)], [], 0, 0)) rfl ?_
                    refine Ex.steps 2 (S' := (7, [.int 3, .int 2], [(0, .int 2), (1, .int 0), (2, .int 3)], [], 0, 0)) rfl ?_
                    refine Ex.steps 1 (S' := (10, [], [(0, .int 2), (1, .int 0), (2, .int 3)], [], 0, 0)) rfl ?_
                    refine Ex.steps 2 (S' := (15, [.int 1], [(0, .int 2), (1, .int 0), (2, .int 3)], [], 0, 0)) rfl ?_
                    exact Ex.ret rfl rfl) ?_
                  refine Ex.steps 0 (S' := (6, [.int 1], [(0, .ref 0), (1, .int 2), (2, .int x2), (3, .int x3)], hX, 0, 0)) rfl ?_
                  refine Ex.steps 1 (S' := (9, [], [(0, .ref 0), (1, .int 2), (2, .int x2), (3, .int x3)], hX, 0, 0)) rfl ?_
                  refine Ex.steps 3 (S' := (16, [.int 1000, .int (-1000), .int x2], [(0, .ref 0), (1, .int 2), (2, .int x2), (3, .int x3)], hX, 0, 0)) rfl ?_
                  refine Ex.call0 (as := [.int x2, .int (-1000), .int 1000]) (rest := []) (r := (some (.int 1))) (c1 := 0) (s1 := 0) rfl rfl rfl rfl (by
                    refine Rn.of (me := me12) rfl ⟨Nat.le_of_ble_eq_true rfl, rfl⟩ rfl ?_
                    refine Ex.steps 2 (S' := (2, [.int (-1000), .int x2], [(0, .int x2), (1, .int (-1000)), (2, .int 1000)], [], 0, 0)) rfl ?_
                    refine Ex.icmp rfl (cF_lt h3) rfl ?_
                    refine Ex.steps 2 (S' := (7, [.int 1000, .int x2], [(0, .int x2), (1, .int (-1000)), (2, .int 1000)], [], 0, 0)) rfl ?_
                    refine Ex.icmp rfl (cF_gt h4) rfl ?_
                    refine Ex.steps 2 (S' := (15, [.int 1], [(0, .int x2), (1, .int (-1000)), (2, .int 1000)], [], 0, 0)) rfl ?_
                    exact Ex.ret rfl rfl) ?_
                  refine Ex.steps 0 (S' := (19, [.int 1], [(0, .ref 0), (1, .int 2), (2, .int x2), (3, .int x3)], hX, 0, 0)) rfl ?_
                  refine Ex.steps 1 (S' := (22, [], [(0, .ref 0), (1, .int 2), (2, .int x2), (3, .int x3)], hX, 0, 0)) rfl ?_
                  refine Ex.steps 3 (S' := (27, [.int 1000, .int x2, .int x3], [(0, .ref 0), (1, .int 2), (2, .int x2), (3, .int x3)], hX, 0, 0)) rfl ?_
                  refine Ex.call0 (as := [.int x3, .int x2, .int 1000]) (rest := []) (r := (some (.int 1))) (c1 := 0) (s1 := 0) rfl rfl rfl rfl (by
                    refine Rn.of (me := me12) rfl ⟨Nat.le_of_ble_eq_true rfl, rfl⟩ rfl ?_
                    refine Ex.steps 2 (S' := (2, [.int x2, .int x3], [(0, .int x3), (1, .int x2), (2, .int 1000)], [], 0, 0)) rfl ?_
                    refine Ex.icmp rfl (cF_lt h5) rfl ?_
                    refine Ex.steps 2 (S' := (7, [.int 1000, .int x3], [(0, .int x3), (1, .int x2), (2, .int 1000)], [], 0, 0)) rfl ?_
                    refine Ex.icmp rfl (cF_gt h6) rfl ?_
                    refine Ex.steps 2 (S' := (15, [.int 1], [(0, .int x3), (1, .int x2), (2, .int 1000)], [], 0, 0)) rfl ?_
                    exact Ex.ret rfl rfl) ?_
                  refine Ex.steps 0 (S' := (30, [.int 1], [(0, .ref 0), (1, .int 2), (2, .int x2), (3, .int x3)], hX, 0, 0)) rfl ?_
                  refine Ex.steps 1 (S' := (36, [], [(0, .ref 0), (1, .int 2), (2, .int x2), (3, .int x3)], hX, 0, 0)) rfl ?_
                  refine Ex.steps 13 (S' := (57, [.int 1], [(0, .ref 0), (1, .int 2), (2, .int x2), (3, .int x3)], ((hX.set 26 (.inr (0, .inl ([(-100), (-100), (-100), (-100)].set 2 x2)))).set 27 (.inr (0, .inl ([100, 100, 100, 100].set 2 x3)))), 0, 0)) rfl ?_
                  exact Ex.ret rfl rfl) (by
                  refine Rn.of (me := me157) rfl ⟨Nat.le_of_ble_eq_true rfl, rfl⟩ rfl ?_
                  refine Ex.steps 3 (S' := (3, [.int 3, .int 0, .int 2], [(0, .ref 0), (1, .int 2), (2, .int x2), (3, .int x3)], hM, 0, 0)) rfl ?_
                  refine Ex.call0 (as := [.int 2, .int 0, .int 3]) (rest := []) (r := (some (.int 1))) (c1 := 0) (s1 := 0) rfl rfl rfl rfl (by
                    refine Rn.of (me := me145) rfl ⟨Nat.le_of_ble_eq_true rfl, rfl⟩ rfl ?_
                    refine Ex.steps 2 (S' := (2, [.int 0, .int 2], [(0, .int 2), (1, .int 0), (2, .int 3)], [], 0, 0)) rfl ?_
                    refine Ex.steps 1 (S' := (5, [], [(0, .int 2), (1, .int 0), (2, .int 3)], [], 0, 0)) rfl ?_
                    refine Ex.steps 2 (S' := (7, [.int 3, .int 2], [(0, .int 2), (1, .int 0), (2, .int 3)], [], 0, 0)) rfl ?_
                    refine Ex.steps 1 (S' := (10, [], [(0, .int 2), (1, .int 0), (2, .int 3)], [], 0, 0)) rfl ?_
                    refine Ex.steps 2 (S' := (15, [.int 1], [(0, .int 2), (1, .int 0), (2, .int 3)], [], 0, 0)) rfl ?_
                    exact Ex.ret rfl rfl) ?_
                  refine Ex.steps 0 (S' := (6, [.int 1], [(0, .ref 0), (1, .int 2), (2, .int x2), (3, .int x3)], hM, 0, 0)) rfl ?_
                  refine Ex.steps 1 (S' := (9, [], [(0, .ref 0), (1, .int 2), (2, .int x2), (3, .int x3)], hM, 0, 0)) rfl ?_
                  refine Ex.steps 3 (S' := (16, [.int 1000, .int (-1000), .int x2], [(0, .ref 0), (1, .int 2), (2, .int x2), (3, .int x3)], hM, 0, 0)) rfl ?_
                  refine Ex.call0 (as := [.int x2, .int (-1000), .int 1000]) (rest := []) (r := (some (.int 1))) (c1 := 0) (s1 := 0) rfl rfl rfl rfl (by
                    refine Rn.of (me := me145) rfl ⟨Nat.le_of_ble_eq_true rfl, rfl⟩ rfl ?_
                    refine Ex.steps 2 (S' := (2, [.int (-1000), .int x2], [(0, .int x2), (1, .int (-1000)), (2, .int 1000)], [], 0, 0)) rfl ?_
                    refine Ex.icmp rfl (cF_lt h3) rfl ?_
                    refine Ex.steps 2 (S' := (7, [.int 1000, .int x2], [(0, .int x2), (1, .int (-1000)), (2, .int 1000)], [], 0, 0)) rfl ?_
                    refine Ex.icmp rfl (cF_gt h4) rfl ?_
                    refine Ex.steps 2 (S' := (15, [.int 1], [(0, .int x2), (1, .int (-1000)), (2, .int 1000)], [], 0, 0)) rfl ?_
                    exact Ex.ret rfl rfl) ?_
                  refine Ex.steps 0 (S' := (19, [.int 1], [(0, .ref 0), (1, .int 2), (2, .int x2), (3, .int x3)], hM, 0, 0)) rfl ?_
                  refine Ex.steps 1 (S' := (22, [], [(0, .ref 0), (1, .int 2), (2, .int x2), (3, .int x3)], hM, 0, 0)) rfl ?_
                  refine Ex.steps 3 (S' := (27, [.int 1000, .int x2, .int x3], [(0, .ref 0), (1, .int 2), (2, .int x2), (3, .int x3)], hM, 0, 0)) rfl ?_
                  refine Ex.call0 (as := [.int x3, .int x2, .int 1000]) (rest := []) (r := (some (.int 1))) (c1 := 0) (s1 := 0) rfl rfl rfl rfl (by
                    refine Rn.of (me := me145) rfl ⟨Nat.le_of_ble_eq_true rfl, rfl⟩ rfl ?_
                    refine Ex.steps 2 (S' := (2, [.int x2, .int x3], [(0, .int x3), (1, .int x2), (2, .int 1000)], [], 0, 0)) rfl ?_
                    refine Ex.icmp rfl (cF_lt h5) rfl ?_
                    refine Ex.steps 2 (S' := (7, [.int 1000, .int x3], [(0, .int x3), (1, .int x2), (2, .int 1000)], [], 0, 0)) rfl ?_
                    refine Ex.icmp rfl (cF_gt h6) rfl ?_
                    refine Ex.steps 2 (S' := (15, [.int 1], [(0, .int x3), (1, .int x2), (2, .int 1000)], [], 0, 0)) rfl ?_
                    exact Ex.ret rfl rfl) ?_
                  refine Ex.steps 0 (S' := (30, [.int 1], [(0, .ref 0), (1, .int 2), (2, .int x2), (3, .int x3)], hM, 0, 0)) rfl ?_
                  refine Ex.steps 1 (S' := (36, [], [(0, .ref 0), (1, .int 2), (2, .int x2), (3, .int x3)], hM, 0, 0)) rfl ?_
                  refine Ex.steps 21 (S' := (65, [.int 1], [(0, .ref 0), (1, .int 2), (2, .int x2), (3, .int x3)], ((hM.set 1 (.inr (0, .inl ([3, 0, 0, 0, 0, 0, 0, 0, 3, 5, 0, 0, 0, 0, 0, 0, 0, 100, 0, 0, (-1), 0, 0, 0, 0, 0, 0, 0, 0, 0, 0, 0, 0, 0, 0, 0, 0, 0, 0, 0, 0, 0, 1, 0, 0, 0, 0, 0, 0, 0, 0, 0, 0, 0, 0, 0, 0, 0, 0, 0, 0, 0, 0, 0, 0, 0, 0, 0, 0, 0, 0, 0, 0, 0, 0, 0, 0, 0, 0, 0, 0, 0, 1, 0, 0, 0, 0, 0, 0, 0, 0, 0, 0, 0, 0, 0, 0, 0, 0, 0, 0, 0, 0, 0, 0, 0, 0, 0, 0, 0, 0, 0, 0, 0, 0, 0, 0, 0, 0, 0, 0, 0, 1, 0, 0, 0, 0, 0, 0, 0, 0, 0, 0, 0, 0, 0, 0, 0, 0, 0, 0, 0, 0, 0, 0, 0, 0, 0, 0, 0, 0, 0, 0, 0, 0, 0, 0, 0, 0, 0, 0, 0, 1, 0, 0, 0, 0, 0, 0, 0, 0, 0, 0, 0, 0, 0, 0, 0, 0, 0, 0, 0, 0, 0, 0, 0, 0, 0, 0, 0, 0, 0, 0, 0, 0, 0, 0, 0, 0, 0, 0, 0, 0, 0, 0, 0, 0, 0, 0, 0, 0, 0, 0, 0, 0, 0, 0, 0, 0, 0, 0, 0, 0, 0, 0, 0, 0, 0, 0, 0, 0, 0, 0, 0, 0, 0, 0, 0, 0, 0, 0, 0, 0, 0, 0, 0, 0, 0, 0, 0, 0, 0, 0, 0, 0, 0, 0, 0, 0, 0, 0, 0, 0, 0, 0, 0, 0, 0, 0, 0, 0, 0, 0, 0, 0, 0, 0, 0, 0, 0, 0, 0, 0, 0, 0, 0, 0, 0, 0, 0, 0, 0, 0, 0, 0, 0, 0, 0, 0, 0, 0, 0, 0, 0, 0, 0, 0, 0, 0, 0, 0, 0, 0, 0, 0, 0, 0, 0, 0, 0, 0, 0, 0, 0, 0, 0, 0, 0, 0, 0, 0, 0, 0, 0, 0, 0, 0, 0, 0, 0, 0, 0, 0, 0, 0, 0, 0, 0, 0, 0, 0, 0, 0, 0, 0, 0, 0, 0, 0, 0, 0, 0, 0, 0, 0, 0, 0, 0, 0, 0, 0, 0, 0, 0, 0, 0, 0, 0, 0, 0, 0, 0, 0, 0, 0, 0, 0, 0, 0, 0, 0, 0, 0, 0, 0, 0, 0, 0, 0, 0, 0, 0, 0, 0, 0, 0, 0, 0, 0, 0, 0, 0, 0, 0, 0, 0, 0, 0, 0, 0, 0, 0, 0, 0, 0, 0, 0, 0, 0, 0, 0, 0, 0, 0, 0, 0, 0, 0, 0, 0, 0, 0, 0, 0, 0, 0, 0, 0, 0, 0, 0, 0, 0, 0, 0, 0, 0, 0, 0, 0, 0, 0, 0, 0, 0, 0, 0, 0, 0, 0, 0, 0, 0, 0, 0, 0, 0, 0, 0, 0, 0, 0, 0, 0, 0, 0, 0, 0, 0, 0, 0, 0, 0, 0, 0, 0, 0, 0, 0, 0, 0, 0, 0, 0, 0, 0, 0, 0, 0, 0, 0, 0, 0, 0, 0, 0, 0, 0, 0, 0, 0, 0, 0, 0, 0, 0, 0, 0, 0, 0, 0, 0, 0, 0, 0, 0, 0, 0, 0, 0, 0, 0, 0, 0, 0, 0, 0, 0, 0, 0, 0, 0, 0, 0, 0, 0, 0, 0, 0, 0, 0, 0, 0, 0, 0, 0, 0, 0, 0, 0, 0, 0, 0, 0, 0, 0, 0, 0, 0, 0, 0, 0, 0, 0, 0, 0, 0, 0, 0, 0, 0, 0, 0, 0, 0, 0, 0, 0, 0, 0, 0, 0, 0, 0, 0, 0, 0, 0, 0, 0, 0, 0, 0, 0, 0, 0, 0, 0, 0, 0, 0, 0, 0, 0, 0, 0, 0, 0, 0, 0, 0, 0, 0, 0, 0, 0, 0, 0, 0, 0, 0, 0, 0, 0, 0, 0, 0, 0, 0, 0, 0, 0, 0, 0, 0, 0, 0, 0, 0, 0, 0, 0, 0, 0, 0, 0, 0, 0, 0, 0, 0, 0, 0, 0, 0, 0, 0, 0, 0, 0, 0, 0, 0, 0, 0, 0, 0, 0, 0, 0, 0, 0, 0, 0, 0, 0, 0, 0, 0, 0, 0, 0, 0, 0, 0, 0, 0, 0, 0, 0, 0, 0, 0, 0, 0, 0, 0, 0, 0, 0, 0, 0, 0, 0, 0, 0, 0, 0, 0, 0, 0, 0, 0, 0, 0, 0, 0, 0, 0, 0, 0, 0, 0, 0, 0, 0, 0, 0, 0, 0, 0, 0, 0, 0, 0, 0, 0, 0, 0, 0, 0, 0, 0, 0, 0, 0, 0, 0, 0, 0, 0, 0, 0, 0, 0, 0, 0, 0, 0, 0, 0, 0, 0, 0, (-100), 100, (-100), 100, (-100), 100, (-100), 100, 0, 0, 0, 0, 0, 0, 0, 0, 0, 0, 0, 0, 0, 0, 0, 0, 0, 0, 0, 0, 0, 0, 0, 0, 0, 0, 0, 0, 0, 0, 0, 0, 0, 0, 0, 0, 0, 0, 0, 0, 0, 0, 0, 0, 0, 0, 0, 0, 0, 0, 0, 0, 0, 0, 0, 0, 0, 0, 0, 0, 0, 0, 0, 0, 0, 0, 0, 0, 0, 0, 0, 0, 0, 0, 0, 0, 0, 0, 0, 0, 0, 0, 0, 0, 0, 0, 0, 0, 0, 0, 0, 0, 0, 0, 0, 0, 0, 0, 0, 0, 0, 0, 0, 0, 0, 0, 0, 0, 0, 0, 0, 0, 0, 0, 0, 0, 0, 0].set 788 x2)))).set 1 (.inr (0, .inl (([3, 0, 0, 0, 0, 0, 0, 0, 3, 5, 0, 0, 0, 0, 0, 0, 0, 100, 0, 0, (-1), 0, 0, 0, 0, 0, 0, 0, 0, 0, 0, 0, 0, 0, 0, 0, 0, 0, 0, 0, 0, 0, 1, 0, 0, 0, 0, 0, 0, 0, 0, 0, 0, 0, 0, 0, 0, 0, 0, 0, 0, 0, 0, 0, 0, 0, 0, 0, 0, 0, 0, 0, 0, 0, 0, 0, 0, 0, 0, 0, 0, 0, 1, 0, 0, 0, 0, 0, 0, 0, 0, 0, 0, 0, 0, 0, 0, 0, 0, 0, 0, 0, 0, 0, 0, 0, 0, 0, 0, 0, 0, 0, 0, 0, 0, 0, 0, 0, 0, 0, 0, 0, 1, 0, 0, 0, 0, 0, 0, 0, 0, 0, 0, 0, 0, 0, 0, 0, 0, 0, 0, 0, 0, 0, 0, 0, 0, 0, 0, 0, 0, 0, 0, 0, 0, 0, 0, 0, 0, 0, 0, 0, 1, 0, 0, 0, 0, 0, 0, 0, 0, 0, 0, 0, 0, 0, 0, 0, 0, 0, 0, 0, 0, 0, 0, 0, 0, 0, 0, 0, 0, 0, 0, 0, 0, 0, 0, 0, 0, 0, 0, 0, 0, 0, 0, 0, 0, 0, 0, 0, 0, 0, 0, 0, 0, 0, 0, 0, 0, 0, 0, 0, 0, 0, 0, 0, 0, 0, 0, 0, 0, 0, 0, 0, 0, 0, 0, 0, 0, 0, 0, 0, 0, 0, 0, 0, 0, 0, 0, 0, 0, 0, 0, 0, 0, 0, 0, 0, 0, 0, 0, 0, 0, 0, 0, 0, 0, 0, 0, 0, 0, 0, 0, 0, 0, 0, 0, 0, 0, 0, 0, 0, 0, 0, 0, 0, 0, 0, 0, 0, 0, 0, 0, 0, 0, 0, 0, 0, 0, 0, 0, 0, 0, 0, 0, 0, 0, 0, 0, 0, 0, 0, 0, 0, 0, 0, 0, 0, 0, 0, 0, 0, 0, 0, 0, 0, 0, 0, 0, 0, 0, 0, 0, 0, 0, 0, 0, 0, 0, 0, 0, 0, 0, 0, 0, 0, 0, 0, 0, 0, 0, 0, 0, 0, 0, 0, 0, 0, 0, 0, 0, 0, 0, 0, 0, 0, 0, 0, 0, 0, 0, 0, 0, 0, 0, 0, 0, 0, 0, 0, 0, 0, 0, 0, 0, 0, 0, 0, 0, 0, 0, 0, 0, 0, 0, 0, 0, 0, 0, 0, 0, 0, 0, 0, 0, 0, 0, 0, 0, 0, 0, 0, 0, 0, 0, 0, 0, 0, 0, 0, 0, 0, 0, 0, 0, 0, 0, 0, 0, 0, 0, 0, 0, 0, 0, 0, 0, 0, 0, 0, 0, 0, 0, 0, 0, 0, 0, 0, 0, 0, 0, 0, 0, 0, 0, 0, 0, 0, 0, 0, 0, 0, 0, 0, 0, 0, 0, 0, 0, 0, 0, 0, 0, 0, 0, 0, 0, 0, 0, 0, 0, 0, 0, 0, 0, 0, 0, 0, 0, 0, 0, 0, 0, 0, 0, 0, 0, 0, 0, 0, 0, 0, 0, 0, 0, 0, 0, 0, 0, 0, 0, 0, 0, 0, 0, 0, 0, 0, 0, 0, 0, 0, 0, 0, 0, 0, 0, 0, 0, 0, 0, 0, 0, 0, 0, 0, 0, 0, 0, 0, 0, 0, 0, 0, 0, 0, 0, 0, 0, 0, 0, 0, 0, 0, 0, 0, 0, 0, 0, 0, 0, 0, 0, 0, 0, 0, 0, 0, 0, 0, 0, 0, 0, 0, 0, 0, 0, 0, 0, 0, 0, 0, 0, 0, 0, 0, 0, 0, 0, 0, 0, 0, 0, 0, 0, 0, 0, 0, 0, 0, 0, 0, 0, 0, 0, 0, 0, 0, 0, 0, 0, 0, 0, 0, 0, 0, 0, 0, 0, 0, 0, 0, 0, 0, 0, 0, 0, 0, 0, 0, 0, 0, 0, 0, 0, 0, 0, 0, 0, 0, 0, 0, 0, 0, 0, 0, 0, 0, 0, 0, 0, 0, 0, 0, 0, 0, 0, 0, 0, 0, 0, 0, 0, 0, 0, 0, 0, 0, 0, 0, 0, 0, 0, 0, 0, 0, 0, 0, 0, 0, 0, 0, 0, 0, 0, 0, 0, 0, 0, 0, 0, 0, 0, 0, 0, 0, 0, 0, 0, 0, 0, 0, 0, 0, 0, 0, 0, 0, 0, 0, 0, 0, 0, 0, 0, 0, 0, 0, 0, 0, 0, 0, 0, 0, 0, 0, 0, 0, 0, 0, 0, 0, 0, 0, 0, 0, 0, 0, 0, 0, 0, 0, 0, 0, 0, 0, 0, 0, 0, 0, 0, 0, 0, 0, 0, 0, 0, 0, 0, 0, 0, 0, 0, 0, 0, 0, 0, 0, 0, 0, 0, 0, 0, 0, 0, 0, 0, 0, 0, 0, 0, 0, 0, 0, (-100), 100, (-100), 100, (-100), 100, (-100), 100, 0, 0, 0, 0, 0, 0, 0, 0, 0, 0, 0, 0, 0, 0, 0, 0, 0, 0, 0, 0, 0, 0, 0, 0, 0, 0, 0, 0, 0, 0, 0, 0, 0, 0, 0, 0, 0, 0, 0, 0, 0, 0, 0, 0, 0, 0, 0, 0, 0, 0, 0, 0, 0, 0, 0, 0, 0, 0, 0, 0, 0, 0, 0, 0, 0, 0, 0, 0, 0, 0, 0, 0, 0, 0, 0, 0, 0, 0, 0, 0, 0, 0, 0, 0, 0, 0, 0, 0, 0, 0, 0, 0, 0, 0, 0, 0, 0, 0, 0, 0, 0, 0, 0, 0, 0, 0, 0, 0, 0, 0, 0, 0, 0, 0, 0, 0, 0, 0].set 788 x2).set 789 x3)))), 0, 0)) rfl ?_
                  exact Ex.ret rfl rfl) (by decide)
              | 3, _ =>
                show BothI 30 157 [.int 3, .int x2, .int x3]
                exact mkI (x := 1) (c1 := 0) (s1 := 0) (c2 := 0) (s2 := 0) (by
                  refine Rn.of (me := me30) rfl ⟨Nat.le_of_ble_eq_true rfl, rfl⟩ rfl ?_
                  refine Ex.steps 3 (S' := (3, [.int 3, .int 0, .int 3], [(0, .ref 0), (1, .int 3), (2, .int x2), (3, .int x3)], hX, 0, 0)) rfl ?_
                  refine Ex.call0 (as := [.int 3, .int 0, .int 3]) (rest := []) (r := (some (.int 1))) (c1 := 0) (s1 := 0) rfl rfl rfl rfl (by
                    refine Rn.of (me := me12) rfl ⟨Nat.le_of_ble_eq_true rfl, rfl⟩ rfl ?_
                    refine Ex.steps 2 (S' := (2, [.int 0, .int 3], [(0, .int 3), (1, .int 0), (2, .int 3)], [], 0, 0)) rfl ?_
                    refine Ex.steps 1 (S' := (5, [], [(0, .int 3), (1, .int 0), (2, .int 3)], [], 0, 0)) rfl ?_
                    refine Ex.steps 2 (S' := (7, [.int 3, .int 3], [(0, .int 3), (1, .int 0), (2, .int 3)], [], 0, 0)) rfl ?_
                    refine Ex.steps 1 (S' := (10, [], [(0, .int 3), (1, .int 0), (2, .int 3)], [], 0, 0)) rfl ?_
                    refine Ex.steps 2 (S' := (15, [.int 1], [(0, .int 3), (1, .int 0), (2, .int 3)], [], 0, 0)) rfl ?_
                    exact Ex.ret rfl rfl) ?_
                  refine Ex.steps 0 (S' := (6, [.int 1], [(0, .ref 0), (1, .int 3), (2, .int x2), (3, .int x3)], hX, 0, 0)) rfl ?_
                  refine Ex.steps 1 (S' := (9, [], [(0, .ref 0), (1, .int 3), (2, .int x2), (3, .int x3)], hX, 0, 0)) rfl ?_
                  refine Ex.steps 3 (S' := (16, [.int 1000, .int (-1000), .int x2], [(0, .ref 0), (1, .int 3), (2, .int x2), (3, .int x3)], hX, 0, 0)) rfl ?_
                  refine Ex.call0 (as := [.int x2, .int (-1000), .int 1000]) (rest := []) (r := (some (.int 1))) (c1 := 0) (s1 := 0) rfl rfl rfl rfl (by
                    refine Rn.of (me := me12) rfl ⟨Nat.le_of_ble_eq_true rfl, rfl⟩ rfl ?_
                    refine Ex.steps 2 (S' := (2, [.int (-1000), .int x2], [(0, .int x2), (1, .int (-1000)), (2, .int 1000)], [], 0, 0)) rfl ?_
                    refine Ex.icmp rfl (cF_lt h3) rfl ?_
                    refine Ex.steps 2 (S' := (7, [.int 1000, .int x2], [(0, .int x2), (1, .int (-1000)), (2, .int 1000)], [], 0, 0)) rfl ?_
                    refine Ex.icmp rfl (cF_gt h4) rfl ?_
                    refine Ex.steps 2 (S' := (15, [.int 1], [(0, .int x2), (1, .int (-1000)), (2, .int 1000)], [], 0, 0)) rfl ?_
                    exact Ex.ret rfl rfl) ?_
                  refine Ex.steps 0 (S' := (19, [.int 1], [(0, .ref 0), (1, .int 3), (2, .int x2), (3, .int x3)], hX, 0, 0)) rfl ?_
                  refine Ex.steps 1 (S' := (22, [], [(0, .ref 0), (1, .int 3), (2, .int x2), (3, .int x3)], hX, 0, 0)) rfl ?_
                  refine Ex.steps 3 (S' := (27, [.int 1000, .int x2, .int x3], [(0, .ref 0), (1, .int 3), (2, .int x2), (3, .int x3)], hX, 0, 0)) rfl ?_
                  refine Ex.call0 (as := [.int x3, .int x2, .int 1000]) (rest := []) (r := (some (.int 1))) (c1 := 0) (s1 := 0) rfl rfl rfl rfl (by
                    refine Rn.of (me := me12) rfl ⟨Nat.le_of_ble_eq_true rfl, rfl⟩ rfl ?_
                    refine Ex.steps 2 (S' := (2, [.int x2, .int x3], [(0, .int x3), (1, .int x2), (2, .int 1000)], [], 0, 0)) rfl ?_
                    refine Ex.icmp rfl (cF_lt h5) rfl ?_
                    refine Ex.steps 2 (S' := (7, [.int 1000, .int x3], [(0, .int x3), (1, .int x2), (2, .int 1000)], [], 0, 0)) rfl ?_
                    refine Ex.icmp rfl (cF_gt h6) rfl ?_
                    refine Ex.steps 2 (S' := (15, [.int 1], [(0, .int x3), (1, .int x2), (2, .int 1000)], [], 0, 0)) rfl ?_
                    exact Ex.ret rfl rfl) ?_
                  refine Ex.steps 0 (S' := (30, [.int 1], [(0, .ref 0), (1, .int 3), (2, .int x2), (3, .int x3)], hX, 0, 0)) rfl ?_
                  refine Ex.steps 1 (S' := (36, [], [(0, .ref 0), (1, .int 3), (2, .int x2), (3, .int x3)], hX, 0, 0)) rfl ?_
                  refine Ex.steps 13 (S' := (57, [.int 1], [(0, .ref 0), (1, .int 3), (2, .int x2), (3, .int x3)], ((hX.set 26 (.inr (0, .inl ([(-100), (-100), (-100), (-100)].set 3 x2)))).set 27 (.inr (0, .inl ([100, 100, 100, 100].set 3 x3)))), 0, 0)) rfl ?_
                  exact Ex.ret rfl rfl) (by
                  refine Rn.of (me := me157) rfl ⟨Nat.le_of_ble_eq_true rfl, rfl⟩ rfl ?_
                  refine Ex.steps 3 (S' := (3, [.int 3, .int 0, .int 3], [(0, .ref 0), (1, .int 3), (2, .int x2), (3, .int x3)], hM, 0, 0)) rfl ?_
                  refine Ex.call0 (as := [.int 3, .int 0, .int 3]) (rest := []) (r := (some (.int 1))) (c1 := 0) (s1 := 0) rfl rfl rfl rfl (by
                    refine Rn.of (me := me145) rfl ⟨Nat.le_of_ble_eq_true rfl, rfl⟩ rfl ?_
                    refine Ex.steps 2 (S' := (2, [.int 0, .int 3], [(0, .int 3), (1, .int 0), (2, .int 3)], [], 0, 0)) rfl ?_
                    refine Ex.steps 1 (S' := (5, [], [(0, .int 3), (1, .int 0), (2, .int 3)], [], 0, 0)) rfl ?_
                    refine Ex.steps 2 (S' := (7, [.int 3, .int 3], [(0, .int 3), (1, .int 0), (2, .int 3)], [], 0, 0)) rfl ?_
                    refine Ex.steps 1 (S' := (10, [], [(0, .int 3), (1, .int 0), (2, .int 3)], [], 0, 0)) rfl ?_
                    refine Ex.steps 2 (S' := (15, [.int 1], [(0, .int 3), (1, .int 0), (2, .int 3)], [], 0, 0)) rfl ?_
                    exact Ex.ret rfl rfl) ?_
                  refine Ex.steps 0 (S' := (6, [.int 1], [(0, .ref 0), (1, .int 3), (2, .int x2), (3, .int x3)], hM, 0, 0)) rfl ?_
                  refine Ex.steps 1 (S' := (9, [], [(0, .ref 0), (1, .int 3), (2, .int x2), (3, .int x3)], hM, 0, 0)) rfl ?_
                  refine Ex.steps 3 (S' := (16, [.int 1000, .int (-1000), .int x2], [(0, .ref 0), (1, .int 3), (2, .int x2), (3, .int x3)], hM, 0, 0)) rfl ?_
                  refine Ex.call0 (as := [.int x2, .int (-1000), .int 1000]) (rest := []) (r := (some (.int 1))) (c1 := 0) (s1 := 0) rfl rfl rfl rfl (by
                    refine Rn.of (me := me145) rfl ⟨Nat.le_of_ble_eq_true rfl, rfl⟩ rfl ?_
                    refine Ex.steps 2 (S' := (2, [.int (-1000), .int x2], [(0, .int x2), (1, .int (-1000)), (2, .int 1000)], [], 0, 0)) rfl ?_
                    refine Ex.icmp rfl (cF_lt h3) rfl ?_
                    refine Ex.steps 2 (S' := (7, [.int 1000, .int x2], [(0, .int x2), (1, .int (-1000)), (2, .int 1000)], [], 0, 0)) rfl ?_
                    refine Ex.icmp rfl (cF_gt h4) rfl ?_
                    refine Ex.steps 2 (S' := (15, [.int 1], [(0, .int x2), (1, .int (-1000)), (2, .int 1000)], [], 0, 0)) rfl ?_
                    exact Ex.ret rfl rfl) ?_
                  refine Ex.steps 0 (S' := (19, [.int 1], [(0, .ref 0), (1, .int 3), (2, .int x2), (3, .int x3)], hM, 0, 0)) rfl ?_
                  refine Ex.steps 1 (S' := (22, [], [(0, .ref 0), (1, .int 3), (2, .int x2), (3, .int x3)], hM, 0, 0)) rfl ?_
                  refine Ex.steps 3 (S' := (27, [.int 1000, .int x2, .int x3], [(0, .ref 0), (1, .int 3), (2, .int x2), (3, .int x3)], hM, 0, 0)) rfl ?_
                  refine Ex.call0 (as := [.int x3, .int x2, .int 1000]) (rest := []) (r := (some (.int 1))) (c1 := 0) (s1 := 0) rfl rfl rfl rfl (by
                    refine Rn.of (me := me145) rfl ⟨Nat.le_of_ble_eq_true rfl, rfl⟩ rfl ?_
                    refine Ex.steps 2 (S' := (2, [.int x2, .int x3], [(0, .int x3), (1, .int x2), (2, .int 1000)], [], 0, 0)) rfl ?_
                    refine Ex.icmp rfl (cF_lt h5) rfl ?_
                    refine Ex.steps 2 (S' := (7, [.int 1000, .int x3], [(0, .int x3), (1, .int x2), (2, .int 1000)], [], 0, 0)) rfl ?_
                    refine Ex.icmp rfl (cF_gt h6) rfl ?_
                    refine Ex.steps 2 (S' := (15, [.int 1], [(0, .int x3), (1, .int x2), (2, .int 1000)], [], 0, 0)) rfl ?_
                    exact Ex.ret rfl rfl) ?_
                  refine Ex.steps 0 (S' := (30, [.int 1], [(0, .ref 0), (1, .int 3), (2, .int x2), (3, .int x3)], hM, 0, 0)) rfl ?_
                  refine Ex.steps 1 (S' := (36, [], [(0, .ref 0), (1, .int 3), (2, .int x2), (3, .int x3)], hM, 0, 0)) rfl ?_
                  refine Ex.steps 21 (S' := (65, [.int 1], [(0, .ref 0), (1, .int 3), (2, .int x2), (3, .int x3)], ((hM.set 1 (.inr (0, .inl ([3, 0, 0, 0, 0, 0, 0, 0, 3, 5, 0, 0, 0, 0, 0, 0, 0, 100, 0, 0, (-1), 0, 0, 0, 0, 0, 0, 0, 0, 0, 0, 0, 0, 0, 0, 0, 0, 0, 0, 0, 0, 0, 1, 0, 0, 0, 0, 0, 0, 0, 0, 0, 0, 0, 0, 0, 0, 0, 0, 0, 0, 0, 0, 0, 0, 0, 0, 0, 0, 0, 0, 0, 0, 0, 0, 0, 0, 0, 0, 0, 0, 0, 1, 0, 0, 0, 0, 0, 0, 0, 0, 0, 0, 0, 0, 0, 0, 0, 0, 0, 0, 0, 0, 0, 0, 0, 0, 0, 0, 0, 0, 0, 0, 0, 0, 0, 0, 0, 0, 0, 0, 0, 1, 0, 0, 0, 0, 0, 0, 0, 0, 0, 0, 0, 0, 0, 0, 0, 0, 0, 0, 0, 0, 0, 0, 0, 0, 0, 0, 0, 0, 0, 0, 0, 0, 0, 0, 0, 0, 0, 0, 0, 1, 0, 0, 0, 0, 0, 0, 0, 0, 0, 0, 0, 0, 0, 0, 0, 0, 0, 0, 0, 0, 0, 0, 0, 0, 0, 0, 0, 0, 0, 0, 0, 0, 0, 0, 0, 0, 0, 0, 0, 0, 0, 0, 0, 0, 0, 0, 0, 0, 0, 0, 0, 0, 0, 0, 0, 0, 0, 0, 0, 0, 0, 0, 0, 0, 0, 0, 0, 0, 0, 0, 0, 0, 0, 0, 0, 0, 0, 0, 0, 0, 0, 0, 0, 0, 0, 0, 0, 0, 0, 0, 0, 0, 0, 0, 0, 0, 0, 0, 0, 0, 0, 0, 0, 0, 0, 0, 0, 0, 0, 0, 0, 0, 0, 0, 0, 0, 0, 0, 0, 0, 0, 0, 0, 0, 0, 0, 0, 0, 0, 0, 0, 0, 0, 0, 0, 0, 0, 0, 0, 0, 0, 0, 0, 0, 0, 0, 0, 0, 0, 0, 0, 0, 0, 0, 0, 0, 0, 0, 0, 0, 0, 0, 0, 0, 0, 0, 0, 0, 0, 0, 0, 0, 0, 0, 0, 0, 0, 0, 0, 0, 0, 0, 0, 0, 0, 0, 0, 0, 0, 0, 0, 0, 0, 0, 0, 0, 0, 0, 0, 0, 0, 0, 0, 0, 0, 0, 0, 0, 0, 0, 0, 0, 0, 0, 0, 0, 0, 0, 0, 0, 0, 0, 0, 0, 0, 0, 0, 0, 0, 0, 0, 0, 0, 0, 0, 0, 0, 0, 0, 0, 0, 0, 0, 0, 0, 0, 0, 0, 0, 0, 0, 0, 0, 0, 0, 0, 0, 0, 0, 0, 0, 0, 0, 0, 0, 0, 0, 0, 0, 0, 0, 0, 0, 0, 0, 0, 0, 0, 0, 0, 0, 0, 0, 0, 0, 0, 0, 0, 0, 0, 0, 0, 0, 0, 0, 0, 0, 0, 0, 0, 0, 0, 0, 0, 0, 0, 0, 0, 0, 0, 0, 0, 0, 0, 0, 0, 0, 0, 0, 0, 0, 0, 0, 0, 0, 0, 0, 0, 0, 0, 0, 0, 0, 0, 0, 0, 0, 0, 0, 0, 0, 0, 0, 0, 0, 0, 0, 0, 0, 0, 0, 0, 0, 0, 0, 0, 0, 0, 0, 0, 0, 0, 0, 0, 0, 0, 0, 0, 0, 0, 0, 0, 0, 0, 0, 0, 0, 0, 0, 0, 0, 0, 0, 0, 0, 0, 0, 0, 0, 0, 0, 0, 0, 0, 0, 0, 0, 0, 0, 0, 0, 0, 0, 0, 0, 0, 0, 0, 0, 0, 0, 0, 0, 0, 0, 0, 0, 0, 0, 0, 0, 0, 0, 0, 0, 0, 0, 0, 0, 0, 0, 0, 0, 0, 0, 0, 0, 0, 0, 0, 0, 0, 0, 0, 0, 0, 0, 0, 0, 0, 0, 0, 0, 0, 0, 0, 0, 0, 0, 0, 0, 0, 0, 0, 0, 0, 0, 0, 0, 0, 0, 0, 0, 0, 0, 0, 0, 0, 0, 0, 0, 0, 0, 0, 0, 0, 0, 0, 0, 0, 0, 0, 0, 0, 0, 0, 0, 0, 0, 0, 0, 0, 0, 0, 0, 0, 0, 0, 0, 0, 0, 0, 0, 0, 0, 0, 0, 0, 0, 0, 0, 0, 0, 0, 0, 0, 0, 0, 0, 0, 0, 0, 0, 0, 0, 0, 0, 0, 0, 0, 0, 0, 0, 0, 0, 0, 0, 0, 0, 0, 0, 0, 0, 0, 0, 0, 0, 0, 0, 0, 0, 0, 0, 0, 0, 0, 0, 0, 0, 0, 0, 0, 0, 0, 0, 0, 0, 0, 0, 0, 0, 0, 0, 0, 0, 0, 0, 0, 0, 0, 0, 0, 0, 0, 0, 0, 0, 0, 0, 0, 0, 0, 0, 0, 0, 0, 0, 0, 0, 0, 0, 0, 0, 0, 0, 0, 0, 0, 0, 0, 0, (-100), 100, (-100), 100, (-100), 100, (-100), 100, 0, 0, 0, 0, 0, 0, 0, 0, 0, 0, 0, 0, 0, 0, 0, 0, 0, 0, 0, 0, 0, 0, 0, 0, 0, 0, 0, 0, 0, 0, 0, 0, 0, 0, 0, 0, 0, 0, 0, 0, 0, 0, 0, 0, 0, 0, 0, 0, 0, 0, 0, 0, 0, 0, 0, 0, 0, 0, 0, 0, 0, 0, 0, 0, 0, 0, 0, 0, 0, 0, 0, 0, 0, 0, 0, 0, 0, 0, 0, 0, 0, 0, 0, 0, 0, 0, 0, 0, 0, 0, 0, 0, 0, 0, 0, 0, 0, 0, 0, 0, 0, 0, 0, 0, 0, 0, 0, 0, 0, 0, 0, 0, 0, 0, 0, 0, 0, 0].set 790 x2)))).set 1 (.inr (0, .inl (([3, 0, 0, 0, 0, 0, 0, 0, 3, 5, 0, 0, 0, 0, 0, 0, 0, 100, 0, 0, (-1), 0, 0, 0, 0, 0, 0, 0, 0, 0, 0, 0, 0, 0, 0, 0, 0, 0, 0, 0, 0, 0, 1, 0, 0, 0, 0, 0, 0, 0, 0, 0, 0, 0, 0, 0, 0, 0, 0, 0, 0, 0, 0, 0, 0, 0, 0, 0, 0, 0, 0, 0, 0, 0, 0, 0, 0, 0, 0, 0, 0, 0, 1, 0, 0, 0, 0, 0, 0, 0, 0, 0, 0, 0, 0, 0, 0, 0, 0, 0, 0, 0, 0, 0, 0, 0, 0, 0, 0, 0, 0, 0, 0, 0, 0, 0, 0, 0, 0, 0, 0, 0, 1, 0, 0, 0, 0, 0, 0, 0, 0, 0, 0, 0, 0, 0, 0, 0, 0, 0, 0, 0, 0, 0, 0, 0, 0, 0, 0, 0, 0, 0, 0, 0, 0, 0, 0, 0, 0, 0, 0, 0, 1, 0, 0, 0, 0, 0, 0, 0, 0, 0, 0, 0, 0, 0, 0, 0, 0, 0, 0, 0, 0, 0, 0, 0, 0, 0, 0, 0, 0, 0, 0, 0, 0, 0, 0, 0, 0, 0, 0, 0, 0, 0, 0, 0, 0, 0, 0, 0, 0, 0, 0, 0, 0, 0, 0, 0, 0, 0, 0, 0, 0, 0, 0, 0, 0, 0, 0, 0, 0, 0, 0, 0, 0, 0, 0, 0, 0, 0, 0, 0, 0, 0, 0, 0, 0, 0, 0, 0, 0, 0, 0, 0, 0, 0, 0, 0, 0, 0, 0, 0, 0, 0, 0, 0, 0, 0, 0, 0, 0, 0, 0, 0, 0, 0, 0, 0, 0, 0, 0, 0, 0, 0, 0, 0, 0, 0, 0, 0, 0, 0, 0, 0, 0, 0, 0, 0, 0, 0, 0, 0, 0, 0, 0, 0, 0, 0, 0, 0, 0, 0, 0, 0, 0, 0, 0, 0, 0, 0, 0, 0, 0, 0, 0, 0, 0, 0, 0, 0, 0, 0, 0, 0, 0, 0, 0, 0, 0, 0, 0, 0, 0, 0, 0, 0, 0, 0, 0, 0, 0, 0, 0, 0, 0, 0, 0, 0, 0, 0, 0, 0, 0, 0, 0, 0, 0, 0, 0, 0, 0, 0, 0, 0, 0, 0, 0, 0, 0, 0, 0, 0, 0, 0, 0, 0, 0, 0, 0, 0, 0, 0, 0, 0, 0, 0, 0, 0, 0, 0, 0, 0, 0, 0, 0, 0, 0, 0, 0, 0, 0, 0, 0, 0, 0, 0, 0, 0, 0, 0, 0, 0, 0, 0, 0, 0, 0, 0, 0, 0, 0, 0, 0, 0, 0, 0, 0, 0, 0, 0, 0, 0, 0, 0, 0, 0, 0, 0, 0, 0, 0, 0, 0, 0, 0, 0, 0, 0, 0, 0, 0, 0, 0, 0, 0, 0, 0, 0, 0, 0, 0, 0, 0, 0, 0, 0, 0, 0, 0, 0, 0, 0, 0, 0, 0, 0, 0, 0, 0, 0, 0, 0, 0, 0, 0, 0, 0, 0, 0, 0, 0, 0, 0, 0, 0, 0, 0, 0, 0, 0, 0, 0, 0, 0, 0, 0, 0, 0, 0, 0, 0, 0, 0, 0, 0, 0, 0, 0, 0, 0, 0, 0, 0, 0, 0, 0, 0, 0, 0, 0, 0, 0, 0, 0, 0, 0, 0, 0, 0, 0, 0, 0, 0, 0, 0, 0, 0, 0, 0, 0, 0, 0, 0, 0, 0, 0, 0, 0, 0, 0, 0, 0, 0, 0, 0, 0, 0, 0, 0, 0, 0, 0, 0, 0, 0, 0, 0, 0, 0, 0, 0, 0, 0, 0, 0, 0, 0, 0, 0, 0, 0, 0, 0, 0, 0, 0, 0, 0, 0, 0, 0, 0, 0, 0, 0, 0, 0, 0, 0, 0, 0, 0, 0, 0, 0, 0, 0, 0, 0, 0, 0, 0, 0, 0, 0, 0, 0, 0, 0, 0, 0, 0, 0, 0, 0, 0, 0, 0, 0, 0, 0, 0, 0, 0, 0, 0, 0, 0, 0, 0, 0, 0, 0, 0, 0, 0, 0, 0, 0, 0, 0, 0, 0, 0, 0, 0, 0, 0, 0, 0, 0, 0, 0, 0, 0, 0, 0, 0, 0, 0, 0, 0, 0, 0, 0, 0, 0, 0, 0, 0, 0, 0, 0, 0, 0, 0, 0, 0, 0, 0, 0, 0, 0, 0, 0, 0, 0, 0, 0, 0, 0, 0, 0, 0, 0, 0, 0, 0, 0, 0, 0, 0, 0, 0, 0, 0, 0, 0, 0, 0, 0, 0, 0, 0, 0, 0, 0, 0, 0, 0, 0, 0, 0, 0, 0, 0, 0, 0, 0, 0, 0, 0, 0, 0, 0, 0, 0, 0, 0, 0, 0, 0, 0, 0, 0, 0, 0, 0, 0, 0, 0, 0, 0, 0, (-100), 100, (-100), 100, (-100), 100, (-100), 100, 0, 0, 0, 0, 0, 0, 0, 0, 0, 0, 0, 0, 0, 0, 0, 0, 0, 0, 0, 0, 0, 0, 0, 0, 0, 0, 0, 0, 0, 0, 0, 0, 0, 0, 0, 0, 0, 0, 0, 0, 0, 0, 0, 0, 0, 0, 0, 0, 0, 0, 0, 0, 0, 0, 0, 0, 0, 0, 0, 0, 0, 0, 0, 0, 0, 0, 0, 0, 0, 0, 0, 0, 0, 0, 0, 0, 0, 0, 0, 0, 0, 0, 0, 0, 0, 0, 0, 0, 0, 0, 0, 0, 0, 0, 0, 0, 0, 0, 0, 0, 0, 0, 0, 0, 0, 0, 0, 0, 0, 0, 0, 0, 0, 0, 0, 0, 0, 0].set 790 x2).set 791 x3)))), 0, 0)) rfl ?_
                  exact Ex.ret rfl rfl) (by decide)
              | k7 + 4, h => exact absurd h (by omega)
