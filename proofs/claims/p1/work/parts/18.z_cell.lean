/-! ===== both answer alike: cell ===== -/
set_option maxHeartbeats 8000000 in
set_option maxRecDepth 100000 in
theorem both_cell (x1 x2 : Int32) : BothI 89 198 [.int x1, .int x2] := by
  by_cases h1 : (x1 : Int32) < 0
  ·
    exact mkI (x := 0) (c1 := 0) (s1 := 0) (c2 := 0) (s2 := 0) (by
      refine Rn.of (me := me89) rfl ⟨Nat.le_of_ble_eq_true rfl, rfl⟩ rfl ?_
      refine Ex.steps 2 (S' := (2, [.int x1, .ref 0], [(0, .ref 0), (1, .int x1), (2, .int x2)], hX, 0, 0)) rfl ?_
      refine Ex.callX (as := [.int x1]) (rest := []) (r := (some (.int 0))) (c1 := 0) (s1 := 0) rfl rfl rfl rfl xX1 xX2 rfl xX3 xX4 rfl okX (by
        refine Rn.of (me := me90) rfl ⟨Nat.le_of_ble_eq_true rfl, rfl⟩ rfl ?_
        refine Ex.steps 7 (S' := (11, [.int 2, .int 0, .int x1], [(0, .ref 0), (1, .int x1)], hX, 0, 0)) rfl ?_
        refine Ex.call0 (as := [.int x1, .int 0, .int 2]) (rest := []) (r := (some (.int 0))) (c1 := 0) (s1 := 0) rfl rfl rfl rfl (by
          refine Rn.of (me := me12) rfl ⟨Nat.le_of_ble_eq_true rfl, rfl⟩ rfl ?_
          refine Ex.steps 2 (S' := (2, [.int 0, .int x1], [(0, .int x1), (1, .int 0), (2, .int 2)], [], 0, 0)) rfl ?_
          refine Ex.icmp rfl (cT_lt h1) rfl ?_
          refine Ex.steps 1 (S' := (15, [.int 0], [(0, .int x1), (1, .int 0), (2, .int 2)], [], 0, 0)) rfl ?_
          exact Ex.ret rfl rfl) ?_
        refine Ex.steps 0 (S' := (14, [.int 0], [(0, .ref 0), (1, .int x1)], hX, 0, 0)) rfl ?_
        exact Ex.ret rfl rfl) ?_
      refine Ex.steps 0 (S' := (5, [.int 0], [(0, .ref 0), (1, .int x1), (2, .int x2)], hX, 0, 0)) rfl ?_
      refine Ex.steps 1 (S' := (18, [], [(0, .ref 0), (1, .int x1), (2, .int x2)], hX, 0, 0)) rfl ?_
      refine Ex.steps 1 (S' := (19, [.int 0], [(0, .ref 0), (1, .int x1), (2, .int x2)], hX, 0, 0)) rfl ?_
      exact Ex.ret rfl rfl) (by
      refine Rn.of (me := me198) rfl ⟨Nat.le_of_ble_eq_true rfl, rfl⟩ rfl ?_
      refine Ex.steps 2 (S' := (2, [.int x1, .ref 0], [(0, .ref 0), (1, .int x1), (2, .int x2)], hM, 0, 0)) rfl ?_
      refine Ex.callX (as := [.int x1]) (rest := []) (r := (some (.int 0))) (c1 := 0) (s1 := 0) rfl rfl rfl rfl xM1 xM2 rfl xM3 xM4 rfl okM (by
        refine Rn.of (me := me173) rfl ⟨Nat.le_of_ble_eq_true rfl, rfl⟩ rfl ?_
        refine Ex.steps 8 (S' := (10, [.int 2, .int 0, .int x1], [(0, .ref 0), (1, .int x1)], hM, 0, 0)) rfl ?_
        refine Ex.call0 (as := [.int x1, .int 0, .int 2]) (rest := []) (r := (some (.int 0))) (c1 := 0) (s1 := 0) rfl rfl rfl rfl (by
          refine Rn.of (me := me145) rfl ⟨Nat.le_of_ble_eq_true rfl, rfl⟩ rfl ?_
          refine Ex.steps 2 (S' := (2, [.int 0, .int x1], [(0, .int x1), (1, .int 0), (2, .int 2)], [], 0, 0)) rfl ?_
          refine Ex.icmp rfl (cT_lt h1) rfl ?_
          refine Ex.steps 1 (S' := (15, [.int 0], [(0, .int x1), (1, .int 0), (2, .int 2)], [], 0, 0)) rfl ?_
          exact Ex.ret rfl rfl) ?_
        refine Ex.steps 0 (S' := (13, [.int 0], [(0, .ref 0), (1, .int x1)], hM, 0, 0)) rfl ?_
        exact Ex.ret rfl rfl) ?_
      refine Ex.steps 0 (S' := (5, [.int 0], [(0, .ref 0), (1, .int x1), (2, .int x2)], hM, 0, 0)) rfl ?_
      refine Ex.steps 1 (S' := (27, [], [(0, .ref 0), (1, .int x1), (2, .int x2)], hM, 0, 0)) rfl ?_
      refine Ex.steps 1 (S' := (28, [.int 0], [(0, .ref 0), (1, .int x1), (2, .int x2)], hM, 0, 0)) rfl ?_
      exact Ex.ret rfl rfl) (by decide)
  ·
    by_cases h2 : (2 : Int32) < x1
    ·
      exact mkI (x := 0) (c1 := 0) (s1 := 0) (c2 := 0) (s2 := 0) (by
        refine Rn.of (me := me89) rfl ⟨Nat.le_of_ble_eq_true rfl, rfl⟩ rfl ?_
        refine Ex.steps 2 (S' := (2, [.int x1, .ref 0], [(0, .ref 0), (1, .int x1), (2, .int x2)], hX, 0, 0)) rfl ?_
        refine Ex.callX (as := [.int x1]) (rest := []) (r := (some (.int 0))) (c1 := 0) (s1 := 0) rfl rfl rfl rfl xX1 xX2 rfl xX3 xX4 rfl okX (by
          refine Rn.of (me := me90) rfl ⟨Nat.le_of_ble_eq_true rfl, rfl⟩ rfl ?_
          refine Ex.steps 7 (S' := (11, [.int 2, .int 0, .int x1], [(0, .ref 0), (1, .int x1)], hX, 0, 0)) rfl ?_
          refine Ex.call0 (as := [.int x1, .int 0, .int 2]) (rest := []) (r := (some (.int 0))) (c1 := 0) (s1 := 0) rfl rfl rfl rfl (by
            refine Rn.of (me := me12) rfl ⟨Nat.le_of_ble_eq_true rfl, rfl⟩ rfl ?_
            refine Ex.steps 2 (S' := (2, [.int 0, .int x1], [(0, .int x1), (1, .int 0), (2, .int 2)], [], 0, 0)) rfl ?_
            refine Ex.icmp rfl (cF_lt h1) rfl ?_
            refine Ex.steps 2 (S' := (7, [.int 2, .int x1], [(0, .int x1), (1, .int 0), (2, .int 2)], [], 0, 0)) rfl ?_
            refine Ex.icmp rfl (cT_gt h2) rfl ?_
            refine Ex.steps 1 (S' := (15, [.int 0], [(0, .int x1), (1, .int 0), (2, .int 2)], [], 0, 0)) rfl ?_
            exact Ex.ret rfl rfl) ?_
          refine Ex.steps 0 (S' := (14, [.int 0], [(0, .ref 0), (1, .int x1)], hX, 0, 0)) rfl ?_
          exact Ex.ret rfl rfl) ?_
        refine Ex.steps 0 (S' := (5, [.int 0], [(0, .ref 0), (1, .int x1), (2, .int x2)], hX, 0, 0)) rfl ?_
        refine Ex.steps 1 (S' := (18, [], [(0, .ref 0), (1, .int x1), (2, .int x2)], hX, 0, 0)) rfl ?_
        refine Ex.steps 1 (S' := (19, [.int 0], [(0, .ref 0), (1, .int x1), (2, .int x2)], hX, 0, 0)) rfl ?_
        exact Ex.ret rfl rfl) (by
        refine Rn.of (me := me198) rfl ⟨Nat.le_of_ble_eq_true rfl, rfl⟩ rfl ?_
        refine Ex.steps 2 (S' := (2, [.int x1, .ref 0], [(0, .ref 0), (1, .int x1), (2, .int x2)], hM, 0, 0)) rfl ?_
        refine Ex.callX (as := [.int x1]) (rest := []) (r := (some (.int 0))) (c1 := 0) (s1 := 0) rfl rfl rfl rfl xM1 xM2 rfl xM3 xM4 rfl okM (by
          refine Rn.of (me := me173) rfl ⟨Nat.le_of_ble_eq_true rfl, rfl⟩ rfl ?_
          refine Ex.steps 8 (S' := (10, [.int 2, .int 0, .int x1], [(0, .ref 0), (1, .int x1)], hM, 0, 0)) rfl ?_
          refine Ex.call0 (as := [.int x1, .int 0, .int 2]) (rest := []) (r := (some (.int 0))) (c1 := 0) (s1 := 0) rfl rfl rfl rfl (by
            refine Rn.of (me := me145) rfl ⟨Nat.le_of_ble_eq_true rfl, rfl⟩ rfl ?_
            refine Ex.steps 2 (S' := (2, [.int 0, .int x1], [(0, .int x1), (1, .int 0), (2, .int 2)], [], 0, 0)) rfl ?_
            refine Ex.icmp rfl (cF_lt h1) rfl ?_
            refine Ex.steps 2 (S' := (7, [.int 2, .int x1], [(0, .int x1), (1, .int 0), (2, .int 2)], [], 0, 0)) rfl ?_
            refine Ex.icmp rfl (cT_gt h2) rfl ?_
            refine Ex.steps 1 (S' := (15, [.int 0], [(0, .int x1), (1, .int 0), (2, .int 2)], [], 0, 0)) rfl ?_
            exact Ex.ret rfl rfl) ?_
          refine Ex.steps 0 (S' := (13, [.int 0], [(0, .ref 0), (1, .int x1)], hM, 0, 0)) rfl ?_
          exact Ex.ret rfl rfl) ?_
        refine Ex.steps 0 (S' := (5, [.int 0], [(0, .ref 0), (1, .int x1), (2, .int x2)], hM, 0, 0)) rfl ?_
        refine Ex.steps 1 (S' := (27, [], [(0, .ref 0), (1, .int x1), (2, .int x2)], hM, 0, 0)) rfl ?_
        refine Ex.steps 1 (S' := (28, [.int 0], [(0, .ref 0), (1, .int x1), (2, .int x2)], hM, 0, 0)) rfl ?_
        exact Ex.ret rfl rfl) (by decide)
    ·
      by_cases h3 : (x2 : Int32) < 0
      ·
        exact mkI (x := 0) (c1 := 0) (s1 := 0) (c2 := 0) (s2 := 0) (by
          refine Rn.of (me := me89) rfl ⟨Nat.le_of_ble_eq_true rfl, rfl⟩ rfl ?_
          refine Ex.steps 2 (S' := (2, [.int x1, .ref 0], [(0, .ref 0), (1, .int x1), (2, .int x2)], hX, 0, 0)) rfl ?_
          refine Ex.callX (as := [.int x1]) (rest := []) (r := (some (.int 1))) (c1 := 0) (s1 := 0) rfl rfl rfl rfl xX1 xX2 rfl xX3 xX4 rfl okX (by
            refine Rn.of (me := me90) rfl ⟨Nat.le_of_ble_eq_true rfl, rfl⟩ rfl ?_
            refine Ex.steps 7 (S' := (11, [.int 2, .int 0, .int x1], [(0, .ref 0), (1, .int x1)], hX, 0, 0)) rfl ?_
            refine Ex.call0 (as := [.int x1, .int 0, .int 2]) (rest := []) (r := (some (.int 1))) (c1 := 0) (s1 := 0) rfl rfl rfl rfl (by
              refine Rn.of (me := me12) rfl ⟨Nat.le_of_ble_eq_true rfl, rfl⟩ rfl ?_
              refine Ex.steps 2 (S' := (2, [.int 0, .int x1], [(0, .int x1), (1, .int 0), (2, .int 2)], [], 0, 0)) rfl ?_
              refine Ex.icmp rfl (cF_lt h1) rfl ?_
              refine Ex.steps 2 (S' := (7, [.int 2, .int x1], [(0, .int x1), (1, .int 0), (2, .int 2)], [], 0, 0)) rfl ?_
              refine Ex.icmp rfl (cF_gt h2) rfl ?_
              refine Ex.steps 2 (S' := (15, [.int 1], [(0, .int x1), (1, .int 0), (2, .int 2)], [], 0, 0)) rfl ?_
              exact Ex.ret rfl rfl) ?_
            refine Ex.steps 0 (S' := (14, [.int 1], [(0, .ref 0), (1, .int x1)], hX, 0, 0)) rfl ?_
            exact Ex.ret rfl rfl) ?_
          refine Ex.steps 0 (S' := (5, [.int 1], [(0, .ref 0), (1, .int x1), (2, .int x2)], hX, 0, 0)) rfl ?_
          refine Ex.steps 1 (S' := (8, [], [(0, .ref 0), (1, .int x1), (2, .int x2)], hX, 0, 0)) rfl ?_
          refine Ex.steps 3 (S' := (12, [.int 11, .int 0, .int x2], [(0, .ref 0), (1, .int x1), (2, .int x2)], hX, 0, 0)) rfl ?_
          refine Ex.call0 (as := [.int x2, .int 0, .int 11]) (rest := []) (r := (some (.int 0))) (c1 := 0) (s1 := 0) rfl rfl rfl rfl (by
            refine Rn.of (me := me12) rfl ⟨Nat.le_of_ble_eq_true rfl, rfl⟩ rfl ?_
            refine Ex.steps 2 (S' := (2, [.int 0, .int x2], [(0, .int x2), (1, .int 0), (2, .int 11)], [], 0, 0)) rfl ?_
            refine Ex.icmp rfl (cT_lt h3) rfl ?_
            refine Ex.steps 1 (S' := (15, [.int 0], [(0, .int x2), (1, .int 0), (2, .int 11)], [], 0, 0)) rfl ?_
            exact Ex.ret rfl rfl) ?_
          refine Ex.steps 0 (S' := (15, [.int 0], [(0, .ref 0), (1, .int x1), (2, .int x2)], hX, 0, 0)) rfl ?_
          refine Ex.steps 1 (S' := (18, [], [(0, .ref 0), (1, .int x1), (2, .int x2)], hX, 0, 0)) rfl ?_
          refine Ex.steps 1 (S' := (19, [.int 0], [(0, .ref 0), (1, .int x1), (2, .int x2)], hX, 0, 0)) rfl ?_
          exact Ex.ret rfl rfl) (by
          refine Rn.of (me := me198) rfl ⟨Nat.le_of_ble_eq_true rfl, rfl⟩ rfl ?_
          refine Ex.steps 2 (S' := (2, [.int x1, .ref 0], [(0, .ref 0), (1, .int x1), (2, .int x2)], hM, 0, 0)) rfl ?_
          refine Ex.callX (as := [.int x1]) (rest := []) (r := (some (.int 1))) (c1 := 0) (s1 := 0) rfl rfl rfl rfl xM1 xM2 rfl xM3 xM4 rfl okM (by
            refine Rn.of (me := me173) rfl ⟨Nat.le_of_ble_eq_true rfl, rfl⟩ rfl ?_
            refine Ex.steps 8 (S' := (10, [.int 2, .int 0, .int x1], [(0, .ref 0), (1, .int x1)], hM, 0, 0)) rfl ?_
            refine Ex.call0 (as := [.int x1, .int 0, .int 2]) (rest := []) (r := (some (.int 1))) (c1 := 0) (s1 := 0) rfl rfl rfl rfl (by
              refine Rn.of (me := me145) rfl ⟨Nat.le_of_ble_eq_true rfl, rfl⟩ rfl ?_
              refine Ex.steps 2 (S' := (2, [.int 0, .int x1], [(0, .int x1), (1, .int 0), (2, .int 2)], [], 0, 0)) rfl ?_
              refine Ex.icmp rfl (cF_lt h1) rfl ?_
              refine Ex.steps 2 (S' := (7, [.int 2, .int x1], [(0, .int x1), (1, .int 0), (2, .int 2)], [], 0, 0)) rfl ?_
              refine Ex.icmp rfl (cF_gt h2) rfl ?_
              refine Ex.steps 2 (S' := (15, [.int 1], [(0, .int x1), (1, .int 0), (2, .int 2)], [], 0, 0)) rfl ?_
              exact Ex.ret rfl rfl) ?_
            refine Ex.steps 0 (S' := (13, [.int 1], [(0, .ref 0), (1, .int x1)], hM, 0, 0)) rfl ?_
            exact Ex.ret rfl rfl) ?_
          refine Ex.steps 0 (S' := (5, [.int 1], [(0, .ref 0), (1, .int x1), (2, .int x2)], hM, 0, 0)) rfl ?_
          refine Ex.steps 1 (S' := (8, [], [(0, .ref 0), (1, .int x1), (2, .int x2)], hM, 0, 0)) rfl ?_
          refine Ex.steps 3 (S' := (12, [.int 11, .int 0, .int x2], [(0, .ref 0), (1, .int x1), (2, .int x2)], hM, 0, 0)) rfl ?_
          refine Ex.call0 (as := [.int x2, .int 0, .int 11]) (rest := []) (r := (some (.int 0))) (c1 := 0) (s1 := 0) rfl rfl rfl rfl (by
            refine Rn.of (me := me145) rfl ⟨Nat.le_of_ble_eq_true rfl, rfl⟩ rfl ?_
            refine Ex.steps 2 (S' := (2, [.int 0, .int x2], [(0, .int x2), (1, .int 0), (2, .int 11)], [], 0, 0)) rfl ?_
            refine Ex.icmp rfl (cT_lt h3) rfl ?_
            refine Ex.steps 1 (S' := (15, [.int 0], [(0, .int x2), (1, .int 0), (2, .int 11)], [], 0, 0)) rfl ?_
            exact Ex.ret rfl rfl) ?_
          refine Ex.steps 0 (S' := (15, [.int 0], [(0, .ref 0), (1, .int x1), (2, .int x2)], hM, 0, 0)) rfl ?_
          refine Ex.steps 1 (S' := (27, [], [(0, .ref 0), (1, .int x1), (2, .int x2)], hM, 0, 0)) rfl ?_
          refine Ex.steps 1 (S' := (28, [.int 0], [(0, .ref 0), (1, .int x1), (2, .int x2)], hM, 0, 0)) rfl ?_
          exact Ex.ret rfl rfl) (by decide)
      ·
        by_cases h4 : (11 : Int32) < x2
        ·
          exact mkI (x := 0) (c1 := 0) (s1 := 0) (c2 := 0) (s2 := 0) (by
            refine Rn.of (me := me89) rfl ⟨Nat.le_of_ble_eq_true rfl, rfl⟩ rfl ?_
            refine Ex.steps 2 (S' := (2, [.int x1, .ref 0], [(0, .ref 0), (1, .int x1), (2, .int x2)], hX, 0, 0)) rfl ?_
            refine Ex.callX (as := [.int x1]) (rest := []) (r := (some (.int 1))) (c1 := 0) (s1 := 0) rfl rfl rfl rfl xX1 xX2 rfl xX3 xX4 rfl okX (by
              refine Rn.of (me := me90) rfl ⟨Nat.le_of_ble_eq_true rfl, rfl⟩ rfl ?_
              refine Ex.steps 7 (S' := (11, [.int 2, .int 0, .int x1], [(0, .ref 0), (1, .int x1)], hX, 0, 0)) rfl ?_
              refine Ex.call0 (as := [.int x1, .int 0, .int 2]) (rest := []) (r := (some (.int 1))) (c1 := 0) (s1 := 0) rfl rfl rfl rfl (by
                refine Rn.of (me := me12) rfl ⟨Nat.le_of_ble_eq_true rfl, rfl⟩ rfl ?_
                refine Ex.steps 2 (S' := (2, [.int 0, .int x1], [(0, .int x1), (1, .int 0), (2, .int 2)], [], 0, 0)) rfl ?_
                refine Ex.icmp rfl (cF_lt h1) rfl ?_
                refine Ex.steps 2 (S' := (7, [.int 2, .int x1], [(0, .int x1), (1, .int 0), (2, .int 2)], [], 0, 0)) rfl ?_
                refine Ex.icmp rfl (cF_gt h2) rfl ?_
                refine Ex.steps 2 (S' := (15, [.int 1], [(0, .int x1), (1, .int 0), (2, .int 2)], [], 0, 0)) rfl ?_
                exact Ex.ret rfl rfl) ?_
              refine Ex.steps 0 (S' := (14, [.int 1], [(0, .ref 0), (1, .int x1)], hX, 0, 0)) rfl ?_
              exact Ex.ret rfl rfl) ?_
            refine Ex.steps 0 (S' := (5, [.int 1], [(0, .ref 0), (1, .int x1), (2, .int x2)], hX, 0, 0)) rfl ?_
            refine Ex.steps 1 (S' := (8, [], [(0, .ref 0), (1, .int x1), (2, .int x2)], hX, 0, 0)) rfl ?_
            refine Ex.steps 3 (S' := (12, [.int 11, .int 0, .int x2], [(0, .ref 0), (1, .int x1), (2, .int x2)], hX, 0, 0)) rfl ?_
            refine Ex.call0 (as := [.int x2, .int 0, .int 11]) (rest := []) (r := (some (.int 0))) (c1 := 0) (s1 := 0) rfl rfl rfl rfl (by
              refine Rn.of (me := me12) rfl ⟨Nat.le_of_ble_eq_true rfl, rfl⟩ rfl ?_
              refine Ex.steps 2 (S' := (2, [.int 0, .int x2], [(0, .int x2), (1, .int 0), (2, .int 11)], [], 0, 0)) rfl ?_
              refine Ex.icmp rfl (cF_lt h3) rfl ?_
              refine Ex.steps 2 (S' := (7, [.int 11, .int x2], [(0, .int x2), (1, .int 0), (2, .int 11)], [], 0, 0)) rfl ?_
              refine Ex.icmp rfl (cT_gt h4) rfl ?_
              refine Ex.steps 1 (S' := (15, [.int 0], [(0, .int x2), (1, .int 0), (2, .int 11)], [], 0, 0)) rfl ?_
              exact Ex.ret rfl rfl) ?_
            refine Ex.steps 0 (S' := (15, [.int 0], [(0, .ref 0), (1, .int x1), (2, .int x2)], hX, 0, 0)) rfl ?_
            refine Ex.steps 1 (S' := (18, [], [(0, .ref 0), (1, .int x1), (2, .int x2)], hX, 0, 0)) rfl ?_
            refine Ex.steps 1 (S' := (19, [.int 0], [(0, .ref 0), (1, .int x1), (2, .int x2)], hX, 0, 0)) rfl ?_
            exact Ex.ret rfl rfl) (by
            refine Rn.of (me := me198) rfl ⟨Nat.le_of_ble_eq_true rfl, rfl⟩ rfl ?_
            refine Ex.steps 2 (S' := (2, [.int x1, .ref 0], [(0, .ref 0), (1, .int x1), (2, .int x2)], hM, 0, 0)) rfl ?_
            refine Ex.callX (as := [.int x1]) (rest := []) (r := (some (.int 1))) (c1 := 0) (s1 := 0) rfl rfl rfl rfl xM1 xM2 rfl xM3 xM4 rfl okM (by
              refine Rn.of (me := me173) rfl ⟨Nat.le_of_ble_eq_true rfl, rfl⟩ rfl ?_
              refine Ex.steps 8 (S' := (10, [.int 2, .int 0, .int x1], [(0, .ref 0), (1, .int x1)], hM, 0, 0)) rfl ?_
              refine Ex.call0 (as := [.int x1, .int 0, .int 2]) (rest := []) (r := (some (.int 1))) (c1 := 0) (s1 := 0) rfl rfl rfl rfl (by
                refine Rn.of (me := me145) rfl ⟨Nat.le_of_ble_eq_true rfl, rfl⟩ rfl ?_
                refine Ex.steps 2 (S' := (2, [.int 0, .int x1], [(0, .int x1), (1, .int 0), (2, .int 2)], [], 0, 0)) rfl ?_
                refine Ex.icmp rfl (cF_lt h1) rfl ?_
                refine Ex.steps 2 (S' := (7, [.int 2, .int x1], [(0, .int x1), (1, .int 0), (2, .int 2)], [], 0, 0)) rfl ?_
                refine Ex.icmp rfl (cF_gt h2) rfl ?_
                refine Ex.steps 2 (S' := (15, [.int 1], [(0, .int x1), (1, .int 0), (2, .int 2)], [], 0, 0)) rfl ?_
                exact Ex.ret rfl rfl) ?_
              refine Ex.steps 0 (S' := (13, [.int 1], [(0, .ref 0), (1, .int x1)], hM, 0, 0)) rfl ?_
              exact Ex.ret rfl rfl) ?_
            refine Ex.steps 0 (S' := (5, [.int 1], [(0, .ref 0), (1, .int x1), (2, .int x2)], hM, 0, 0)) rfl ?_
            refine Ex.steps 1 (S' := (8, [], [(0, .ref 0), (1, .int x1), (2, .int x2)], hM, 0, 0)) rfl ?_
            refine Ex.steps 3 (S' := (12, [.int 11, .int 0, .int x2], [(0, .ref 0), (1, .int x1), (2, .int x2)], hM, 0, 0)) rfl ?_
            refine Ex.call0 (as := [.int x2, .int 0, .int 11]) (rest := []) (r := (some (.int 0))) (c1 := 0) (s1 := 0) rfl rfl rfl rfl (by
              refine Rn.of (me := me145) rfl ⟨Nat.le_of_ble_eq_true rfl, rfl⟩ rfl ?_
              refine Ex.steps 2 (S' := (2, [.int 0, .int x2], [(0, .int x2), (1, .int 0), (2, .int 11)], [], 0, 0)) rfl ?_
              refine Ex.icmp rfl (cF_lt h3) rfl ?_
              refine Ex.steps 2 (S' := (7, [.int 11, .int x2], [(0, .int x2), (1, .int 0), (2, .int 11)], [], 0, 0)) rfl ?_
              refine Ex.icmp rfl (cT_gt h4) rfl ?_
              refine Ex.steps 1 (S' := (15, [.int 0], [(0, .int x2), (1, .int 0), (2, .int 11)], [], 0, 0)) rfl ?_
              exact Ex.ret rfl rfl) ?_
            refine Ex.steps 0 (S' := (15, [.int 0], [(0, .ref 0), (1, .int x1), (2, .int x2)], hM, 0, 0)) rfl ?_
            refine Ex.steps 1 (S' := (27, [], [(0, .ref 0), (1, .int x1), (2, .int x2)], hM, 0, 0)) rfl ?_
            refine Ex.steps 1 (S' := (28, [.int 0], [(0, .ref 0), (1, .int x1), (2, .int x2)], hM, 0, 0)) rfl ?_
            exact Ex.ret rfl rfl) (by decide)
        ·
          obtain ⟨k5, hkk5, rfl⟩ := en_b (x := x1) (n := 2) (by decide) h1 h2
          match k5, hkk5 with
          | 0, _ =>
            show BothI 89 198 [.int 0, .int x2]
            obtain ⟨k6, hkk6, rfl⟩ := en_b (x := x2) (n := 11) (by decide) h3 h4
            match k6, hkk6 with
            | 0, _ =>
              show BothI 89 198 [.int 0, .int 0]
              obtain ⟨hA, rA⟩ := closed (F := 95) (mi := 89) (as := [.ref 0, .int 0, .int 0]) (σ := hX) (v := .int 0) (c := 0) (s := 0) (by decide +kernel)
              obtain ⟨hB, rB⟩ := closed (F := 104) (mi := 198) (as := [.ref 0, .int 0, .int 0]) (σ := hM) (v := .int 0) (c := 0) (s := 0) (by decide +kernel)
              exact mkI rA rB (by decide)
            | 1, _ =>
              show BothI 89 198 [.int 0, .int 1]
              obtain ⟨hA, rA⟩ := closed (F := 95) (mi := 89) (as := [.ref 0, .int 0, .int 1]) (σ := hX) (v := .int 0) (c := 0) (s := 0) (by decide +kernel)
              obtain ⟨hB, rB⟩ := closed (F := 104) (mi := 198) (as := [.ref 0, .int 0, .int 1]) (σ := hM) (v := .int 0) (c := 0) (s := 0) (by decide +kernel)
              exact mkI rA rB (by decide)
            | 2, _ =>
              show BothI 89 198 [.int 0, .int 2]
              obtain ⟨hA, rA⟩ := closed (F := 95) (mi := 89) (as := [.ref 0, .int 0, .int 2]) (σ := hX) (v := .int 0) (c := 0) (s := 0) (by decide +kernel)
              obtain ⟨hB, rB⟩ := closed (F := 104) (mi := 198) (as := [.ref 0, .int 0, .int 2]) (σ := hM) (v := .int 0) (c := 0) (s := 0) (by decide +kernel)
              exact mkI rA rB (by decide)
            | 3, _ =>
              show BothI 89 198 [.int 0, .int 3]
              obtain ⟨hA, rA⟩ := closed (F := 95) (mi := 89) (as := [.ref 0, .int 0, .int 3]) (σ := hX) (v := .int 0) (c := 0) (s := 0) (by decide +kernel)
              obtain ⟨hB, rB⟩ := closed (F := 104) (mi := 198) (as := [.ref 0, .int 0, .int 3]) (σ := hM) (v := .int 0) (c := 0) (s := 0) (by decide +kernel)
              exact mkI rA rB (by decide)
            | 4, _ =>
              show BothI 89 198 [.int 0, .int 4]
              obtain ⟨hA, rA⟩ := closed (F := 95) (mi := 89) (as := [.ref 0, .int 0, .int 4]) (σ := hX) (v := .int 0) (c := 0) (s := 0) (by decide +kernel)
              obtain ⟨hB, rB⟩ := closed (F := 104) (mi := 198) (as := [.ref 0, .int 0, .int 4]) (σ := hM) (v := .int 0) (c := 0) (s := 0) (by decide +kernel)
              exact mkI rA rB (by decide)
            | 5, _ =>
              show BothI 89 198 [.int 0, .int 5]
              obtain ⟨hA, rA⟩ := closed (F := 95) (mi := 89) (as := [.ref 0, .int 0, .int 5]) (σ := hX) (v := .int 0) (c := 0) (s := 0) (by decide +kernel)
              obtain ⟨hB, rB⟩ := closed (F := 104) (mi := 198) (as := [.ref 0, .int 0, .int 5]) (σ := hM) (v := .int 0) (c := 0) (s := 0) (by decide +kernel)
              exact mkI rA rB (by decide)
            | 6, _ =>
              show BothI 89 198 [.int 0, .int 6]
              obtain ⟨hA, rA⟩ := closed (F := 95) (mi := 89) (as := [.ref 0, .int 0, .int 6]) (σ := hX) (v := .int 0) (c := 0) (s := 0) (by decide +kernel)
              obtain ⟨hB, rB⟩ := closed (F := 104) (mi := 198) (as := [.ref 0, .int 0, .int 6]) (σ := hM) (v := .int 0) (c := 0) (s := 0) (by decide +kernel)
              exact mkI rA rB (by decide)
            | 7, _ =>
              show BothI 89 198 [.int 0, .int 7]
              obtain ⟨hA, rA⟩ := closed (F := 95) (mi := 89) (as := [.ref 0, .int 0, .int 7]) (σ := hX) (v := .int 0) (c := 0) (s := 0) (by decide +kernel)
              obtain ⟨hB, rB⟩ := closed (F := 104) (mi := 198) (as := [.ref 0, .int 0, .int 7]) (σ := hM) (v := .int 0) (c := 0) (s := 0) (by decide +kernel)
              exact mkI rA rB (by decide)
            | 8, _ =>
              show BothI 89 198 [.int 0, .int 8]
              obtain ⟨hA, rA⟩ := closed (F := 95) (mi := 89) (as := [.ref 0, .int 0, .int 8]) (σ := hX) (v := .int 0) (c := 0) (s := 0) (by decide +kernel)
              obtain ⟨hB, rB⟩ := closed (F := 104) (mi := 198) (as := [.ref 0, .int 0, .int 8]) (σ := hM) (v := .int 0) (c := 0) (s := 0) (by decide +kernel)
              exact mkI rA rB (by decide)
            | 9, _ =>
              show BothI 89 198 [.int 0, .int 9]
              obtain ⟨hA, rA⟩ := closed (F := 95) (mi := 89) (as := [.ref 0, .int 0, .int 9]) (σ := hX) (v := .int 0) (c := 0) (s := 0) (by decide +kernel)
              obtain ⟨hB, rB⟩ := closed (F := 104) (mi := 198) (as := [.ref 0, .int 0, .int 9]) (σ := hM) (v := .int 0) (c := 0) (s := 0) (by decide +kernel)
              exact mkI rA rB (by decide)
            | 10, _ =>
              show BothI 89 198 [.int 0, .int 10]
              obtain ⟨hA, rA⟩ := closed (F := 95) (mi := 89) (as := [.ref 0, .int 0, .int 10]) (σ := hX) (v := .int 0) (c := 0) (s := 0) (by decide +kernel)
              obtain ⟨hB, rB⟩ := closed (F := 104) (mi := 198) (as := [.ref 0, .int 0, .int 10]) (σ := hM) (v := .int 0) (c := 0) (s := 0) (by decide +kernel)
              exact mkI rA rB (by decide)
            | 11, _ =>
              show BothI 89 198 [.int 0, .int 11]
              obtain ⟨hA, rA⟩ := closed (F := 95) (mi := 89) (as := [.ref 0, .int 0, .int 11]) (σ := hX) (v := .int 0) (c := 0) (s := 0) (by decide +kernel)
              obtain ⟨hB, rB⟩ := closed (F := 104) (mi := 198) (as := [.ref 0, .int 0, .int 11]) (σ := hM) (v := .int 0) (c := 0) (s := 0) (by decide +kernel)
              exact mkI rA rB (by decide)
            | k6 + 12, h => exact absurd h (by omega)
          | 1, _ =>
            show BothI 89 198 [.int 1, .int x2]
            obtain ⟨k7, hkk7, rfl⟩ := en_b (x := x2) (n := 11) (by decide) h3 h4
            match k7, hkk7 with
            | 0, _ =>
              show BothI 89 198 [.int 1, .int 0]
              obtain ⟨hA, rA⟩ := closed (F := 95) (mi := 89) (as := [.ref 0, .int 1, .int 0]) (σ := hX) (v := .int 0) (c := 0) (s := 0) (by decide +kernel)
              obtain ⟨hB, rB⟩ := closed (F := 104) (mi := 198) (as := [.ref 0, .int 1, .int 0]) (σ := hM) (v := .int 0) (c := 0) (s := 0) (by decide +kernel)
              exact mkI rA rB (by decide)
            | 1, _ =>
              show BothI 89 198 [.int 1, .int 1]
              obtain ⟨hA, rA⟩ := closed (F := 95) (mi := 89) (as := [.ref 0, .int 1, .int 1]) (σ := hX) (v := .int 0) (c := 0) (s := 0) (by decide +kernel)
              obtain ⟨hB, rB⟩ := closed (F := 104) (mi := 198) (as := [.ref 0, .int 1, .int 1]) (σ := hM) (v := .int 0) (c := 0) (s := 0) (by decide +kernel)
              exact mkI rA rB (by decide)
            | 2, _ =>
              show BothI 89 198 [.int 1, .int 2]
              obtain ⟨hA, rA⟩ := closed (F := 95) (mi := 89) (as := [.ref 0, .int 1, .int 2]) (σ := hX) (v := .int 0) (c := 0) (s := 0) (by decide +kernel)
              obtain ⟨hB, rB⟩ := closed (F := 104) (mi := 198) (as := [.ref 0, .int 1, .int 2]) (σ := hM) (v := .int 0) (c := 0) (s := 0) (by decide +kernel)
              exact mkI rA rB (by decide)
            | 3, _ =>
              show BothI 89 198 [.int 1, .int 3]
              obtain ⟨hA, rA⟩ := closed (F := 95) (mi := 89) (as := [.ref 0, .int 1, .int 3]) (σ := hX) (v := .int 0) (c := 0) (s := 0) (by decide +kernel)
              obtain ⟨hB, rB⟩ := closed (F := 104) (mi := 198) (as := [.ref 0, .int 1, .int 3]) (σ := hM) (v := .int 0) (c := 0) (s := 0) (by decide +kernel)
              exact mkI rA rB (by decide)
            | 4, _ =>
              show BothI 89 198 [.int 1, .int 4]
              obtain ⟨hA, rA⟩ := closed (F := 95) (mi := 89) (as := [.ref 0, .int 1, .int 4]) (σ := hX) (v := .int 0) (c := 0) (s := 0) (by decide +kernel)
              obtain ⟨hB, rB⟩ := closed (F := 104) (mi := 198) (as := [.ref 0, .int 1, .int 4]) (σ := hM) (v := .int 0) (c := 0) (s := 0) (by decide +kernel)
              exact mkI rA rB (by decide)
            | 5, _ =>
              show BothI 89 198 [.int 1, .int 5]
              obtain ⟨hA, rA⟩ := closed (F := 95) (mi := 89) (as := [.ref 0, .int 1, .int 5]) (σ := hX) (v := .int 0) (c := 0) (s := 0) (by decide +kernel)
              obtain ⟨hB, rB⟩ := closed (F := 104) (mi := 198) (as := [.ref 0, .int 1, .int 5]) (σ := hM) (v := .int 0) (c := 0) (s := 0) (by decide +kernel)
              exact mkI rA rB (by decide)
            | 6, _ =>
              show BothI 89 198 [.int 1, .int 6]
              obtain ⟨hA, rA⟩ := closed (F := 95) (mi := 89) (as := [.ref 0, .int 1, .int 6]) (σ := hX) (v := .int 0) (c := 0) (s := 0) (by decide +kernel)
              obtain ⟨hB, rB⟩ := closed (F := 104) (mi := 198) (as := [.ref 0, .int 1, .int 6]) (σ := hM) (v := .int 0) (c := 0) (s := 0) (by decide +kernel)
              exact mkI rA rB (by decide)
            | 7, _ =>
              show BothI 89 198 [.int 1, .int 7]
              obtain ⟨hA, rA⟩ := closed (F := 95) (mi := 89) (as := [.ref 0, .int 1, .int 7]) (σ := hX) (v := .int 0) (c := 0) (s := 0) (by decide +kernel)
              obtain ⟨hB, rB⟩ := closed (F := 104) (mi := 198) (as := [.ref 0, .int 1, .int 7]) (σ := hM) (v := .int 0) (c := 0) (s := 0) (by decide +kernel)
              exact mkI rA rB (by decide)
            | 8, _ =>
              show BothI 89 198 [.int 1, .int 8]
              obtain ⟨hA, rA⟩ := closed (F := 95) (mi := 89) (as := [.ref 0, .int 1, .int 8]) (σ := hX) (v := .int 0) (c := 0) (s := 0) (by decide +kernel)
              obtain ⟨hB, rB⟩ := closed (F := 104) (mi := 198) (as := [.ref 0, .int 1, .int 8]) (σ := hM) (v := .int 0) (c := 0) (s := 0) (by decide +kernel)
              exact mkI rA rB (by decide)
            | 9, _ =>
              show BothI 89 198 [.int 1, .int 9]
              obtain ⟨hA, rA⟩ := closed (F := 95) (mi := 89) (as := [.ref 0, .int 1, .int 9]) (σ := hX) (v := .int 0) (c := 0) (s := 0) (by decide +kernel)
              obtain ⟨hB, rB⟩ := closed (F := 104) (mi := 198) (as := [.ref 0, .int 1, .int 9]) (σ := hM) (v := .int 0) (c := 0) (s := 0) (by decide +kernel)
              exact mkI rA rB (by decide)
            | 10, _ =>
              show BothI 89 198 [.int 1, .int 10]
              obtain ⟨hA, rA⟩ := closed (F := 95) (mi := 89) (as := [.ref 0, .int 1, .int 10]) (σ := hX) (v := .int 0) (c := 0) (s := 0) (by decide +kernel)
              obtain ⟨hB, rB⟩ := closed (F := 104) (mi := 198) (as := [.ref 0, .int 1, .int 10]) (σ := hM) (v := .int 0) (c := 0) (s := 0) (by decide +kernel)
              exact mkI rA rB (by decide)
            | 11, _ =>
              show BothI 89 198 [.int 1, .int 11]
              obtain ⟨hA, rA⟩ := closed (F := 95) (mi := 89) (as := [.ref 0, .int 1, .int 11]) (σ := hX) (v := .int 0) (c := 0) (s := 0) (by decide +kernel)
              obtain ⟨hB, rB⟩ := closed (F := 104) (mi := 198) (as := [.ref 0, .int 1, .int 11]) (σ := hM) (v := .int 0) (c := 0) (s := 0) (by decide +kernel)
              exact mkI rA rB (by decide)
            | k7 + 12, h => exact absurd h (by omega)
          | 2, _ =>
            show BothI 89 198 [.int 2, .int x2]
            obtain ⟨k8, hkk8, rfl⟩ := en_b (x := x2) (n := 11) (by decide) h3 h4
            match k8, hkk8 with
            | 0, _ =>
              show BothI 89 198 [.int 2, .int 0]
              obtain ⟨hA, rA⟩ := closed (F := 95) (mi := 89) (as := [.ref 0, .int 2, .int 0]) (σ := hX) (v := .int 0) (c := 0) (s := 0) (by decide +kernel)
              obtain ⟨hB, rB⟩ := closed (F := 104) (mi := 198) (as := [.ref 0, .int 2, .int 0]) (σ := hM) (v := .int 0) (c := 0) (s := 0) (by decide +kernel)
              exact mkI rA rB (by decide)
            | 1, _ =>
              show BothI 89 198 [.int 2, .int 1]
              obtain ⟨hA, rA⟩ := closed (F := 95) (mi := 89) (as := [.ref 0, .int 2, .int 1]) (σ := hX) (v := .int 0) (c := 0) (s := 0) (by decide +kernel)
              obtain ⟨hB, rB⟩ := closed (F := 104) (mi := 198) (as := [.ref 0, .int 2, .int 1]) (σ := hM) (v := .int 0) (c := 0) (s := 0) (by decide +kernel)
              exact mkI rA rB (by decide)
            | 2, _ =>
              show BothI 89 198 [.int 2, .int 2]
              obtain ⟨hA, rA⟩ := closed (F := 95) (mi := 89) (as := [.ref 0, .int 2, .int 2]) (σ := hX) (v := .int 0) (c := 0) (s := 0) (by decide +kernel)
              obtain ⟨hB, rB⟩ := closed (F := 104) (mi := 198) (as := [.ref 0, .int 2, .int 2]) (σ := hM) (v := .int 0) (c := 0) (s := 0) (by decide +kernel)
              exact mkI rA rB (by decide)
            | 3, _ =>
              show BothI 89 198 [.int 2, .int 3]
              obtain ⟨hA, rA⟩ := closed (F := 95) (mi := 89) (as := [.ref 0, .int 2, .int 3]) (σ := hX) (v := .int 0) (c := 0) (s := 0) (by decide +kernel)
              obtain ⟨hB, rB⟩ := closed (F := 104) (mi := 198) (as := [.ref 0, .int 2, .int 3]) (σ := hM) (v := .int 0) (c := 0) (s := 0) (by decide +kernel)
              exact mkI rA rB (by decide)
            | 4, _ =>
              show BothI 89 198 [.int 2, .int 4]
              obtain ⟨hA, rA⟩ := closed (F := 95) (mi := 89) (as := [.ref 0, .int 2, .int 4]) (σ := hX) (v := .int 0) (c := 0) (s := 0) (by decide +kernel)
              obtain ⟨hB, rB⟩ := closed (F := 104) (mi := 198) (as := [.ref 0, .int 2, .int 4]) (σ := hM) (v := .int 0) (c := 0) (s := 0) (by decide +kernel)
              exact mkI rA rB (by decide)
            | 5, _ =>
              show BothI 89 198 [.int 2, .int 5]
              obtain ⟨hA, rA⟩ := closed (F := 95) (mi := 89) (as := [.ref 0, .int 2, .int 5]) (σ := hX) (v := .int 0) (c := 0) (s := 0) (by decide +kernel)
              obtain ⟨hB, rB⟩ := closed (F := 104) (mi := 198) (as := [.ref 0, .int 2, .int 5]) (σ := hM) (v := .int 0) (c := 0) (s := 0) (by decide +kernel)
              exact mkI rA rB (by decide)
            | 6, _ =>
              show BothI 89 198 [.int 2, .int 6]
              obtain ⟨hA, rA⟩ := closed (F := 95) (mi := 89) (as := [.ref 0, .int 2, .int 6]) (σ := hX) (v := .int 0) (c := 0) (s := 0) (by decide +kernel)
              obtain ⟨hB, rB⟩ := closed (F := 104) (mi := 198) (as := [.ref 0, .int 2, .int 6]) (σ := hM) (v := .int 0) (c := 0) (s := 0) (by decide +kernel)
              exact mkI rA rB (by decide)
            | 7, _ =>
              show BothI 89 198 [.int 2, .int 7]
              obtain ⟨hA, rA⟩ := closed (F := 95) (mi := 89) (as := [.ref 0, .int 2, .int 7]) (σ := hX) (v := .int 0) (c := 0) (s := 0) (by decide +kernel)
              obtain ⟨hB, rB⟩ := closed (F := 104) (mi := 198) (as := [.ref 0, .int 2, .int 7]) (σ := hM) (v := .int 0) (c := 0) (s := 0) (by decide +kernel)
              exact mkI rA rB (by decide)
            | 8, _ =>
              show BothI 89 198 [.int 2, .int 8]
              obtain ⟨hA, rA⟩ := closed (F := 95) (mi := 89) (as := [.ref 0, .int 2, .int 8]) (σ := hX) (v := .int 0) (c := 0) (s := 0) (by decide +kernel)
              obtain ⟨hB, rB⟩ := closed (F := 104) (mi := 198) (as := [.ref 0, .int 2, .int 8]) (σ := hM) (v := .int 0) (c := 0) (s := 0) (by decide +kernel)
              exact mkI rA rB (by decide)
            | 9, _ =>
              show BothI 89 198 [.int 2, .int 9]
              obtain ⟨hA, rA⟩ := closed (F := 95) (mi := 89) (as := [.ref 0, .int 2, .int 9]) (σ := hX) (v := .int 0) (c := 0) (s := 0) (by decide +kernel)
              obtain ⟨hB, rB⟩ := closed (F := 104) (mi := 198) (as := [.ref 0, .int 2, .int 9]) (σ := hM) (v := .int 0) (c := 0) (s := 0) (by decide +kernel)
              exact mkI rA rB (by decide)
            | 10, _ =>
              show BothI 89 198 [.int 2, .int 10]
              obtain ⟨hA, rA⟩ := closed (F := 95) (mi := 89) (as := [.ref 0, .int 2, .int 10]) (σ := hX) (v := .int 0) (c := 0) (s := 0) (by decide +kernel)
              obtain ⟨hB, rB⟩ := closed (F := 104) (mi := 198) (as := [.ref 0, .int 2, .int 10]) (σ := hM) (v := .int 0) (c := 0) (s := 0) (by decide +kernel)
              exact mkI rA rB (by decide)
            | 11, _ =>
              show BothI 89 198 [.int 2, .int 11]
              obtain ⟨hA, rA⟩ := closed (F := 95) (mi := 89) (as := [.ref 0, .int 2, .int 11]) (σ := hX) (v := .int 0) (c := 0) (s := 0) (by decide +kernel)
              obtain ⟨hB, rB⟩ := closed (F := 104) (mi := 198) (as := [.ref 0, .int 2, .int 11]) (σ := hM) (v := .int 0) (c := 0) (s := 0) (by decide +kernel)
              exact mkI rA rB (by decide)
            | k8 + 12, h => exact absurd h (by omega)
          | k5 + 3, h => exact absurd h (by omega)
