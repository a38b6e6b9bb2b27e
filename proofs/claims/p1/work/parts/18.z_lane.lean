/-! ===== both answer alike: lane ===== -/
set_option maxHeartbeats 8000000 in
set_option maxRecDepth 100000 in
theorem both_lane (x1 x2 : Int32) : BothI 91 199 [.int x1, .int x2] := by
  by_cases h1 : (x1 : Int32) < 0
  ·
    exact mkI (x := (-2)) (c1 := 0) (s1 := 0) (c2 := 0) (s2 := 0) (by
      refine Rn.of (me := me91) rfl ⟨Nat.le_of_ble_eq_true rfl, rfl⟩ rfl ?_
      refine Ex.steps 2 (S' := (2, [.int x1, .ref 0], [(0, .ref 0), (1, .int x1), (2, .int x2)], hX, 0, 0)) rfl ?_
      refine Ex.callX (as := [.int x1]) (rest := []) (r := (some (.int 0))) (c1 := 0) (s1 := 0) rfl rfl rfl rfl xX1 xX2 rfl xX3 xX4 rfl okX (by
        refine Rn.of (me := me90) rfl ⟨Nat.le_of_ble_eq_true rfl, rfl⟩ rfl ?_
        refine Ex.steps 7 (S' := (11, [.int 2, .int 0, .int x1], [(0, .ref 0), (1, .int x1)], hX, 0, 0)) rfl ?_
        refine Ex.call0 (as := [.int x1, .int 0, .int 2]) (rest := []) (r := (some (.int 0))) (c1 := 0) (s1 := 0) rfl rfl rfl rfl (by
          refine Rn.of (me := me12) rfl ⟨Nat.le_of_ble_eq_true rfl, rfl⟩ rfl ?_
          refine Ex.steps 2 (S' := (2, [.int 0, .int x1], [(0, .int x1), (1, .int 0), (2, .int 2)], [], 0, 0)) rfl ?_
          refine Ex.icmp rfl (cT_lt h1) rfl ?_
          refine Ex.steps 1 (S' := (15, [.int 0], [(0, .int x1), (1, .int 0), (2, .int 2)], [], 0, 0)) rfl ?_
          exact Ex.ret rfl rfl) ?_
        refine Ex.steps 0 (S' := (14, [.int 0], [(0, .ref 0), (1, .int x1)], hX, 0, 0)) rfl ?_
        exact Ex.ret rfl rfl) ?_
      refine Ex.steps 0 (S' := (5, [.int 0], [(0, .ref 0), (1, .int x1), (2, .int x2)], hX, 0, 0)) rfl ?_
      refine Ex.steps 1 (S' := (8, [], [(0, .ref 0), (1, .int x1), (2, .int x2)], hX, 0, 0)) rfl ?_
      refine Ex.steps 1 (S' := (10, [.int (-2)], [(0, .ref 0), (1, .int x1), (2, .int x2)], hX, 0, 0)) rfl ?_
      exact Ex.ret rfl rfl) (by
      refine Rn.of (me := me199) rfl ⟨Nat.le_of_ble_eq_true rfl, rfl⟩ rfl ?_
      refine Ex.steps 2 (S' := (2, [.int x1, .ref 0], [(0, .ref 0), (1, .int x1), (2, .int x2)], hM, 0, 0)) rfl ?_
      refine Ex.callX (as := [.int x1]) (rest := []) (r := (some (.int 0))) (c1 := 0) (s1 := 0) rfl rfl rfl rfl xM1 xM2 rfl xM3 xM4 rfl okM (by
        refine Rn.of (me := me173) rfl ⟨Nat.le_of_ble_eq_true rfl, rfl⟩ rfl ?_
        refine Ex.steps 8 (S' := (10, [.int 2, .int 0, .int x1], [(0, .ref 0), (1, .int x1)], hM, 0, 0)) rfl ?_
        refine Ex.call0 (as := [.int x1, .int 0, .int 2]) (rest := []) (r := (some (.int 0))) (c1 := 0) (s1 := 0) rfl rfl rfl rfl (by
          refine Rn.of (me := me145) rfl ⟨Nat.le_of_ble_eq_true rfl, rfl⟩ rfl ?_
          refine Ex.steps 2 (S' := (2, [.int 0, .int x1], [(0, .int x1), (1, .int 0), (2, .int 2)], [], 0, 0)) rfl ?_
          refine Ex.icmp rfl (cT_lt h1) rfl ?_
          refine Ex.steps 1 (S' := (15, [.int 0], [(0, .int x1), (1, .int 0), (2, .int 2)], [], 0, 0)) rfl ?_
          exact Ex.ret rfl rfl) ?_
        refine Ex.steps 0 (S' := (13, [.int 0], [(0, .ref 0), (1, .int x1)], hM, 0, 0)) rfl ?_
        exact Ex.ret rfl rfl) ?_
      refine Ex.steps 0 (S' := (5, [.int 0], [(0, .ref 0), (1, .int x1), (2, .int x2)], hM, 0, 0)) rfl ?_
      refine Ex.steps 1 (S' := (29, [], [(0, .ref 0), (1, .int x1), (2, .int x2)], hM, 0, 0)) rfl ?_
      refine Ex.steps 1 (S' := (31, [.int (-2)], [(0, .ref 0), (1, .int x1), (2, .int x2)], hM, 0, 0)) rfl ?_
      exact Ex.ret rfl rfl) (by decide)
  ·
    by_cases h2 : (2 : Int32) < x1
    ·
      exact mkI (x := (-2)) (c1 := 0) (s1 := 0) (c2 := 0) (s2 := 0) (by
        refine Rn.of (me := me91) rfl ⟨Nat.le_of_ble_eq_true rfl, rfl⟩ rfl ?_
        refine Ex.steps 2 (S' := (2, [.int x1, .ref 0], [(0, .ref 0), (1, .int x1), (2, .int x2)], hX, 0, 0)) rfl ?_
        refine Ex.callX (as := [.int x1]) (rest := []) (r := (some (.int 0))) (c1 := 0) (s1 := 0) rfl rfl rfl rfl xX1 xX2 rfl xX3 xX4 rfl okX (by
          refine Rn.of (me := me90) rfl ⟨Nat.le_of_ble_eq_true rfl, rfl⟩ rfl ?_
          refine Ex.steps 7 (S' := (11, [.int 2, .int 0, .int x1], [(0, .ref 0), (1, .int x1)], hX, 0, 0)) rfl ?_
          refine Ex.call0 (as := [.int x1, .int 0, .int 2]) (rest := []) (r := (some (.int 0))) (c1 := 0) (s1 := 0) rfl rfl rfl rfl (by
            refine Rn.of (me := me12) rfl ⟨Nat.le_of_ble_eq_true rfl, rfl⟩ rfl ?_
            refine Ex.steps 2 (S' := (2, [.int 0, .int x1], [(0, .int x1), (1, .int 0), (2, .int 2)], [], 0, 0)) rfl ?_
            refine Ex.icmp rfl (cF_lt h1) rfl ?_
            refine Ex.steps 2 (S' := (7, [.int 2, .int x1], [(0, .int x1), (1, .int 0), (2, .int 2)], [], 0, 0)) rfl ?_
            refine Ex.icmp rfl (cT_gt h2) rfl ?_
            refine Ex.steps 1 (S' := (15, [.int 0], [(0, .int x1), (1, .int 0), (2, .int 2)], [], 0, 0)) rfl ?_
            exact Ex.ret rfl rfl) ?_
          refine Ex.steps 0 (S' := (14, [.int 0], [(0, .ref 0), (1, .int x1)], hX, 0, 0)) rfl ?_
          exact Ex.ret rfl rfl) ?_
        refine Ex.steps 0 (S' := (5, [.int 0], [(0, .ref 0), (1, .int x1), (2, .int x2)], hX, 0, 0)) rfl ?_
        refine Ex.steps 1 (S' := (8, [], [(0, .ref 0), (1, .int x1), (2, .int x2)], hX, 0, 0)) rfl ?_
        refine Ex.steps 1 (S' := (10, [.int (-2)], [(0, .ref 0), (1, .int x1), (2, .int x2)], hX, 0, 0)) rfl ?_
        exact Ex.ret rfl rfl) (by
        refine Rn.of (me := me199) rfl ⟨Nat.le_of_ble_eq_true rfl, rfl⟩ rfl ?_
        refine Ex.steps 2 (S' := (2, [.int x1, .ref 0], [(0, .ref 0), (1, .int x1), (2, .int x2)], hM, 0, 0)) rfl ?_
        refine Ex.callX (as := [.int x1]) (rest := []) (r := (some (.int 0))) (c1 := 0) (s1 := 0) rfl rfl rfl rfl xM1 xM2 rfl xM3 xM4 rfl okM (by
          refine Rn.of (me := me173) rfl ⟨Nat.le_of_ble_eq_true rfl, rfl⟩ rfl ?_
          refine Ex.steps 8 (S' := (10, [.int 2, .int 0, .int x1], [(0, .ref 0), (1, .int x1)], hM, 0, 0)) rfl ?_
          refine Ex.call0 (as := [.int x1, .int 0, .int 2]) (rest := []) (r := (some (.int 0))) (c1 := 0) (s1 := 0) rfl rfl rfl rfl (by
            refine Rn.of (me := me145) rfl ⟨Nat.le_of_ble_eq_true rfl, rfl⟩ rfl ?_
            refine Ex.steps 2 (S' := (2, [.int 0, .int x1], [(0, .int x1), (1, .int 0), (2, .int 2)], [], 0, 0)) rfl ?_
            refine Ex.icmp rfl (cF_lt h1) rfl ?_
            refine Ex.steps 2 (S' := (7, [.int 2, .int x1], [(0, .int x1), (1, .int 0), (2, .int 2)], [], 0, 0)) rfl ?_
            refine Ex.icmp rfl (cT_gt h2) rfl ?_
            refine Ex.steps 1 (S' := (15, [.int 0], [(0, .int x1), (1, .int 0), (2, .int 2)], [], 0, 0)) rfl ?_
            exact Ex.ret rfl rfl) ?_
          refine Ex.steps 0 (S' := (13, [.int 0], [(0, .ref 0), (1, .int x1)], hM, 0, 0)) rfl ?_
          exact Ex.ret rfl rfl) ?_
        refine Ex.steps 0 (S' := (5, [.int 0], [(0, .ref 0), (1, .int x1), (2, .int x2)], hM, 0, 0)) rfl ?_
        refine Ex.steps 1 (S' := (29, [], [(0, .ref 0), (1, .int x1), (2, .int x2)], hM, 0, 0)) rfl ?_
        refine Ex.steps 1 (S' := (31, [.int (-2)], [(0, .ref 0), (1, .int x1), (2, .int x2)], hM, 0, 0)) rfl ?_
        exact Ex.ret rfl rfl) (by decide)
    ·
      obtain ⟨k3, hkk3, rfl⟩ := en_b (x := x1) (n := 2) (by decide) h1 h2
      match k3, hkk3 with
      | 0, _ =>
        show BothI 91 199 [.int 0, .int x2]
        by_cases h4 : (x2 : Int32) < 0
        ·
          exact mkI (x := (-2)) (c1 := 0) (s1 := 0) (c2 := 0) (s2 := 0) (by
            refine Rn.of (me := me91) rfl ⟨Nat.le_of_ble_eq_true rfl, rfl⟩ rfl ?_
            refine Ex.steps 2 (S' := (2, [.int 0, .ref 0], [(0, .ref 0), (1, .int 0), (2, .int x2)], hX, 0, 0)) rfl ?_
            refine Ex.callX (as := [.int 0]) (rest := []) (r := (some (.int 1))) (c1 := 0) (s1 := 0) rfl rfl rfl rfl xX1 xX2 rfl xX3 xX4 rfl okX (by
              refine Rn.of (me := me90) rfl ⟨Nat.le_of_ble_eq_true rfl, rfl⟩ rfl ?_
              refine Ex.steps 7 (S' := (11, [.int 2, .int 0, .int 0], [(0, .ref 0), (1, .int 0)], hX, 0, 0)) rfl ?_
              refine Ex.call0 (as := [.int 0, .int 0, .int 2]) (rest := []) (r := (some (.int 1))) (c1 := 0) (s1 := 0) rfl rfl rfl rfl (by
                refine Rn.of (me := me12) rfl ⟨Nat.le_of_ble_eq_true rfl, rfl⟩ rfl ?_
                refine Ex.steps 2 (S' := (2, [.int 0, .int 0], [(0, .int 0), (1, .int 0), (2, .int 2)], [], 0, 0)) rfl ?_
                refine Ex.steps 1 (S' := (5, [], [(0, .int 0), (1, .int 0), (2, .int 2)], [], 0, 0)) rfl ?_
                refine Ex.steps 2 (S' := (7, [.int 2, .int 0], [(0, .int 0), (1, .int 0), (2, .int 2)], [], 0, 0)) rfl ?_
                refine Ex.steps 1 (S' := (10, [], [(0, .int 0), (1, .int 0), (2, .int 2)], [], 0, 0)) rfl ?_
                refine Ex.steps 2 (S' := (15, [.int 1], [(0, .int 0), (1, .int 0), (2, .int 2)], [], 0, 0)) rfl ?_
                exact Ex.ret rfl rfl) ?_
              refine Ex.steps 0 (S' := (14, [.int 1], [(0, .ref 0), (1, .int 0)], hX, 0, 0)) rfl ?_
              exact Ex.ret rfl rfl) ?_
            refine Ex.steps 0 (S' := (5, [.int 1], [(0, .ref 0), (1, .int 0), (2, .int x2)], hX, 0, 0)) rfl ?_
            refine Ex.steps 1 (S' := (11, [], [(0, .ref 0), (1, .int 0), (2, .int x2)], hX, 0, 0)) rfl ?_
            refine Ex.steps 7 (S' := (22, [.int x2], [(3, .ref 43), (0, .ref 0), (1, .int 0), (2, .int x2)], hX, 0, 0)) rfl ?_
            refine Ex.tsLo rfl h4 rfl rfl ?_
            refine Ex.steps 1 (S' := (95, [.int (-2)], [(3, .ref 43), (0, .ref 0), (1, .int 0), (2, .int x2)], hX, 0, 0)) rfl ?_
            exact Ex.ret rfl rfl) (by
            refine Rn.of (me := me199) rfl ⟨Nat.le_of_ble_eq_true rfl, rfl⟩ rfl ?_
            refine Ex.steps 2 (S' := (2, [.int 0, .ref 0], [(0, .ref 0), (1, .int 0), (2, .int x2)], hM, 0, 0)) rfl ?_
            refine Ex.callX (as := [.int 0]) (rest := []) (r := (some (.int 1))) (c1 := 0) (s1 := 0) rfl rfl rfl rfl xM1 xM2 rfl xM3 xM4 rfl okM (by
              refine Rn.of (me := me173) rfl ⟨Nat.le_of_ble_eq_true rfl, rfl⟩ rfl ?_
              refine Ex.steps 8 (S' := (10, [.int 2, .int 0, .int 0], [(0, .ref 0), (1, .int 0)], hM, 0, 0)) rfl ?_
              refine Ex.call0 (as := [.int 0, .int 0, .int 2]) (rest := []) (r := (some (.int 1))) (c1 := 0) (s1 := 0) rfl rfl rfl rfl (by
                refine Rn.of (me := me145) rfl ⟨Nat.le_of_ble_eq_true rfl, rfl⟩ rfl ?_
                refine Ex.steps 2 (S' := (2, [.int 0, .int 0], [(0, .int 0), (1, .int 0), (2, .int 2)], [], 0, 0)) rfl ?_
                refine Ex.steps 1 (S' := (5, [], [(0, .int 0), (1, .int 0), (2, .int 2)], [], 0, 0)) rfl ?_
                refine Ex.steps 2 (S' := (7, [.int 2, .int 0], [(0, .int 0), (1, .int 0), (2, .int 2)], [], 0, 0)) rfl ?_
                refine Ex.steps 1 (S' := (10, [], [(0, .int 0), (1, .int 0), (2, .int 2)], [], 0, 0)) rfl ?_
                refine Ex.steps 2 (S' := (15, [.int 1], [(0, .int 0), (1, .int 0), (2, .int 2)], [], 0, 0)) rfl ?_
                exact Ex.ret rfl rfl) ?_
              refine Ex.steps 0 (S' := (13, [.int 1], [(0, .ref 0), (1, .int 0)], hM, 0, 0)) rfl ?_
              exact Ex.ret rfl rfl) ?_
            refine Ex.steps 0 (S' := (5, [.int 1], [(0, .ref 0), (1, .int 0), (2, .int x2)], hM, 0, 0)) rfl ?_
            refine Ex.steps 1 (S' := (8, [], [(0, .ref 0), (1, .int 0), (2, .int x2)], hM, 0, 0)) rfl ?_
            refine Ex.steps 3 (S' := (11, [.int 4, .int 0, .int x2], [(0, .ref 0), (1, .int 0), (2, .int x2)], hM, 0, 0)) rfl ?_
            refine Ex.call0 (as := [.int x2, .int 0, .int 4]) (rest := []) (r := (some (.int 0))) (c1 := 0) (s1 := 0) rfl rfl rfl rfl (by
              refine Rn.of (me := me145) rfl ⟨Nat.le_of_ble_eq_true rfl, rfl⟩ rfl ?_
              refine Ex.steps 2 (S' := (2, [.int 0, .int x2], [(0, .int x2), (1, .int 0), (2, .int 4)], [], 0, 0)) rfl ?_
              refine Ex.icmp rfl (cT_lt h4) rfl ?_
              refine Ex.steps 1 (S' := (15, [.int 0], [(0, .int x2), (1, .int 0), (2, .int 4)], [], 0, 0)) rfl ?_
              exact Ex.ret rfl rfl) ?_
            refine Ex.steps 0 (S' := (14, [.int 0], [(0, .ref 0), (1, .int 0), (2, .int x2)], hM, 0, 0)) rfl ?_
            refine Ex.steps 1 (S' := (29, [], [(0, .ref 0), (1, .int 0), (2, .int x2)], hM, 0, 0)) rfl ?_
            refine Ex.steps 1 (S' := (31, [.int (-2)], [(0, .ref 0), (1, .int 0), (2, .int x2)], hM, 0, 0)) rfl ?_
            exact Ex.ret rfl rfl) (by decide)
        ·
          by_cases h5 : (4 : Int32) < x2
          ·
            exact mkI (x := (-2)) (c1 := 0) (s1 := 0) (c2 := 0) (s2 := 0) (by
              refine Rn.of (me := me91) rfl ⟨Nat.le_of_ble_eq_true rfl, rfl⟩ rfl ?_
              refine Ex.steps 2 (S' := (2, [.int 0, .ref 0], [(0, .ref 0), (1, .int 0), (2, .int x2)], hX, 0, 0)) rfl ?_
              refine Ex.callX (as := [.int 0]) (rest := []) (r := (some (.int 1))) (c1 := 0) (s1 := 0) rfl rfl rfl rfl xX1 xX2 rfl xX3 xX4 rfl okX (by
                refine Rn.of (me := me90) rfl ⟨Nat.le_of_ble_eq_true rfl, rfl⟩ rfl ?_
                refine Ex.steps 7 (S' := (11, [.int 2, .int 0, .int 0], [(0, .ref 0), (1, .int 0)], hX, 0, 0)) rfl ?_
                refine Ex.call0 (as := [.int 0, .int 0, .int 2]) (rest := []) (r := (some (.int 1))) (c1 := 0) (s1 := 0) rfl rfl rfl rfl (by
                  refine Rn.of (me := me12) rfl ⟨Nat.le_of_ble_eq_true rfl, rfl⟩ rfl ?_
                  refine Ex.steps 2 (S' := (2, [.int 0, .int 0], [(0, .int 0), (1, .int 0), (2, .int 2)], [], 0, 0)) rfl ?_
                  refine Ex.steps 1 (S' := (5, [], [(0, .int 0), (1, .int 0), (2, .int 2)], [], 0, 0)) rfl ?_
                  refine Ex.steps 2 (S' := (7, [.int 2, .int 0], [(0, .int 0), (1, .int 0), (2, .int 2)], [], 0, 0)) rfl ?_
                  refine Ex.steps 1 (S' := (10, [], [(0, .int 0), (1, .int 0), (2, .int 2)], [], 0, 0)) rfl ?_
                  refine Ex.steps 2 (S' := (15, [.int 1], [(0, .int 0), (1, .int 0), (2, .int 2)], [], 0, 0)) rfl ?_
                  exact Ex.ret rfl rfl) ?_
                refine Ex.steps 0 (S' := (14, [.int 1], [(0, .ref 0), (1, .int 0)], hX, 0, 0)) rfl ?_
                exact Ex.ret rfl rfl) ?_
              refine Ex.steps 0 (S' := (5, [.int 1], [(0, .ref 0), (1, .int 0), (2, .int x2)], hX, 0, 0)) rfl ?_
              refine Ex.steps 1 (S' := (11, [], [(0, .ref 0), (1, .int 0), (2, .int x2)], hX, 0, 0)) rfl ?_
              refine Ex.steps 7 (S' := (22, [.int x2], [(3, .ref 43), (0, .ref 0), (1, .int 0), (2, .int x2)], hX, 0, 0)) rfl ?_
              refine Ex.tsHi rfl h5 rfl rfl ?_
              refine Ex.steps 1 (S' := (95, [.int (-2)], [(3, .ref 43), (0, .ref 0), (1, .int 0), (2, .int x2)], hX, 0, 0)) rfl ?_
              exact Ex.ret rfl rfl) (by
              refine Rn.of (me := me199) rfl ⟨Nat.le_of_ble_eq_true rfl, rfl⟩ rfl ?_
              refine Ex.steps 2 (S' := (2, [.int 0, .ref 0], [(0, .ref 0), (1, .int 0), (2, .int x2)], hM, 0, 0)) rfl ?_
              refine Ex.callX (as := [.int 0]) (rest := []) (r := (some (.int 1))) (c1 := 0) (s1 := 0) rfl rfl rfl rfl xM1 xM2 rfl xM3 xM4 rfl okM (by
                refine Rn.of (me := me173) rfl ⟨Nat.le_of_ble_eq_true rfl, rfl⟩ rfl ?_
                refine Ex.steps 8 (S' := (10, [.int 2, .int 0, .int 0], [(0, .ref 0), (1, .int 0)], hM, 0, 0)) rfl ?_
                refine Ex.call0 (as := [.int 0, .int 0, .int 2]) (rest := []) (r := (some (.int 1))) (c1 := 0) (s1 := 0) rfl rfl rfl rfl (by
                  refine Rn.of (me := me145) rfl ⟨Nat.le_of_ble_eq_true rfl, rfl⟩ rfl ?_
                  refine Ex.steps 2 (S' := (2, [.int 0, .int 0], [(0, .int 0), (1, .int 0), (2, .int 2)], [], 0, 0)) rfl ?_
                  refine Ex.steps 1 (S' := (5, [], [(0, .int 0), (1, .int 0), (2, .int 2)], [], 0, 0)) rfl ?_
                  refine Ex.steps 2 (S' := (7, [.int 2, .int 0], [(0, .int 0), (1, .int 0), (2, .int 2)], [], 0, 0)) rfl ?_
                  refine Ex.steps 1 (S' := (10, [], [(0, .int 0), (1, .int 0), (2, .int 2)], [], 0, 0)) rfl ?_
                  refine Ex.steps 2 (S' := (15, [.int 1], [(0, .int 0), (1, .int 0), (2, .int 2)], [], 0, 0)) rfl ?_
                  exact Ex.ret rfl rfl) ?_
                refine Ex.steps 0 (S' := (13, [.int 1], [(0, .ref 0), (1, .int 0)], hM, 0, 0)) rfl ?_
                exact Ex.ret rfl rfl) ?_
              refine Ex.steps 0 (S' := (5, [.int 1], [(0, .ref 0), (1, .int 0), (2, .int x2)], hM, 0, 0)) rfl ?_
              refine Ex.steps 1 (S' := (8, [], [(0, .ref 0), (1, .int 0), (2, .int x2)], hM, 0, 0)) rfl ?_
              refine Ex.steps 3 (S' := (11, [.int 4, .int 0, .int x2], [(0, .ref 0), (1, .int 0), (2, .int x2)], hM, 0, 0)) rfl ?_
              refine Ex.call0 (as := [.int x2, .int 0, .int 4]) (rest := []) (r := (some (.int 0))) (c1 := 0) (s1 := 0) rfl rfl rfl rfl (by
                refine Rn.of (me := me145) rfl ⟨Nat.le_of_ble_eq_true rfl, rfl⟩ rfl ?_
                refine Ex.steps 2 (S' := (2, [.int 0, .int x2], [(0, .int x2), (1, .int 0), (2, .int 4)], [], 0, 0)) rfl ?_
                refine Ex.icmp rfl (cF_lt h4) rfl ?_
                refine Ex.steps 2 (S' := (7, [.int 4, .int x2], [(0, .int x2), (1, .int 0), (2, .int 4)], [], 0, 0)) rfl ?_
                refine Ex.icmp rfl (cT_gt h5) rfl ?_
                refine Ex.steps 1 (S' := (15, [.int 0], [(0, .int x2), (1, .int 0), (2, .int 4)], [], 0, 0)) rfl ?_
                exact Ex.ret rfl rfl) ?_
              refine Ex.steps 0 (S' := (14, [.int 0], [(0, .ref 0), (1, .int 0), (2, .int x2)], hM, 0, 0)) rfl ?_
              refine Ex.steps 1 (S' := (29, [], [(0, .ref 0), (1, .int 0), (2, .int x2)], hM, 0, 0)) rfl ?_
              refine Ex.steps 1 (S' := (31, [.int (-2)], [(0, .ref 0), (1, .int 0), (2, .int x2)], hM, 0, 0)) rfl ?_
              exact Ex.ret rfl rfl) (by decide)
          ·
            obtain ⟨k6, hkk6, rfl⟩ := en_b (x := x2) (n := 4) (by decide) h4 h5
            match k6, hkk6 with
            | 0, _ =>
              show BothI 91 199 [.int 0, .int 0]
              obtain ⟨hA, rA⟩ := closed (F := 99) (mi := 91) (as := [.ref 0, .int 0, .int 0]) (σ := hX) (v := .int 1) (c := 0) (s := 0) (by decide +kernel)
              obtain ⟨hB, rB⟩ := closed (F := 106) (mi := 199) (as := [.ref 0, .int 0, .int 0]) (σ := hM) (v := .int 1) (c := 0) (s := 0) (by decide +kernel)
              exact mkI rA rB (by decide)
            | 1, _ =>
              show BothI 91 199 [.int 0, .int 1]
              obtain ⟨hA, rA⟩ := closed (F := 83) (mi := 91) (as := [.ref 0, .int 0, .int 1]) (σ := hX) (v := .int 0) (c := 0) (s := 0) (by decide +kernel)
              obtain ⟨hB, rB⟩ := closed (F := 106) (mi := 199) (as := [.ref 0, .int 0, .int 1]) (σ := hM) (v := .int 0) (c := 0) (s := 0) (by decide +kernel)
              exact mkI rA rB (by decide)
            | 2, _ =>
              show BothI 91 199 [.int 0, .int 2]
              obtain ⟨hA, rA⟩ := closed (F := 83) (mi := 91) (as := [.ref 0, .int 0, .int 2]) (σ := hX) (v := .int 0) (c := 0) (s := 0) (by decide +kernel)
              obtain ⟨hB, rB⟩ := closed (F := 106) (mi := 199) (as := [.ref 0, .int 0, .int 2]) (σ := hM) (v := .int 0) (c := 0) (s := 0) (by decide +kernel)
              exact mkI rA rB (by decide)
            | 3, _ =>
              show BothI 91 199 [.int 0, .int 3]
              obtain ⟨hA, rA⟩ := closed (F := 83) (mi := 91) (as := [.ref 0, .int 0, .int 3]) (σ := hX) (v := .int 0) (c := 0) (s := 0) (by decide +kernel)
              obtain ⟨hB, rB⟩ := closed (F := 106) (mi := 199) (as := [.ref 0, .int 0, .int 3]) (σ := hM) (v := .int 0) (c := 0) (s := 0) (by decide +kernel)
              exact mkI rA rB (by decide)
            | 4, _ =>
              show BothI 91 199 [.int 0, .int 4]
              obtain ⟨hA, rA⟩ := closed (F := 83) (mi := 91) (as := [.ref 0, .int 0, .int 4]) (σ := hX) (v := .int 0) (c := 0) (s := 0) (by decide +kernel)
              obtain ⟨hB, rB⟩ := closed (F := 106) (mi := 199) (as := [.ref 0, .int 0, .int 4]) (σ := hM) (v := .int 0) (c := 0) (s := 0) (by decide +kernel)
              exact mkI rA rB (by decide)
            | k6 + 5, h => exact absurd h (by omega)
      | 1, _ =>
        show BothI 91 199 [.int 1, .int x2]
        by_cases h7 : (x2 : Int32) < 0
        ·
          exact mkI (x := (-2)) (c1 := 0) (s1 := 0) (c2 := 0) (s2 := 0) (by
            refine Rn.of (me := me91) rfl ⟨Nat.le_of_ble_eq_true rfl, rfl⟩ rfl ?_
            refine Ex.steps 2 (S' := (2, [.int 1, .ref 0], [(0, .ref 0), (1, .int 1), (2, .int x2)], hX, 0, 0)) rfl ?_
            refine Ex.callX (as := [.int 1]) (rest := []) (r := (some (.int 1))) (c1 := 0) (s1 := 0) rfl rfl rfl rfl xX1 xX2 rfl xX3 xX4 rfl okX (by
              refine Rn.of (me := me90) rfl ⟨Nat.le_of_ble_eq_true rfl, rfl⟩ rfl ?_
              refine Ex.steps 7 (S' := (11, [.int 2, .int 0, .int 1], [(0, .ref 0), (1, .int 1)], hX, 0, 0)) rfl ?_
              refine Ex.call0 (as := [.int 1, .int 0, .int 2]) (rest := []) (r := (some (.int 1))) (c1 := 0) (s1 := 0) rfl rfl rfl rfl (by
                refine Rn.of (me := me12) rfl ⟨Nat.le_of_ble_eq_true rfl, rfl⟩ rfl ?_
                refine Ex.steps 2 (S' := (2, [.int 0, .int 1], [(0, .int 1), (1, .int 0), (2, .int 2)], [], 0, 0)) rfl ?_
                refine Ex.steps 1 (S' := (5, [], [(0, .int 1), (1, .int 0), (2, .int 2)], [], 0, 0)) rfl ?_
                refine Ex.steps 2 (S' := (7, [.int 2, .int 1], [(0, .int 1), (1, .int 0), (2, .int 2)], [], 0, 0)) rfl ?_
                refine Ex.steps 1 (S' := (10, [], [(0, .int 1), (1, .int 0), (2, .int 2)], [], 0, 0)) rfl ?_
                refine Ex.steps 2 (S' := (15, [.int 1], [(0, .int 1), (1, .int 0), (2, .int 2)], [], 0, 0)) rfl ?_
                exact Ex.ret rfl rfl) ?_
              refine Ex.steps 0 (S' := (14, [.int 1], [(0, .ref 0), (1, .int 1)], hX, 0, 0)) rfl ?_
              exact Ex.ret rfl rfl) ?_
            refine Ex.steps 0 (S' := (5, [.int 1], [(0, .ref 0), (1, .int 1), (2, .int x2)], hX, 0, 0)) rfl ?_
            refine Ex.steps 1 (S' := (11, [], [(0, .ref 0), (1, .int 1), (2, .int x2)], hX, 0, 0)) rfl ?_
            refine Ex.steps 7 (S' := (22, [.int x2], [(3, .ref 45), (0, .ref 0), (1, .int 1), (2, .int x2)], hX, 0, 0)) rfl ?_
            refine Ex.tsLo rfl h7 rfl rfl ?_
            refine Ex.steps 1 (S' := (95, [.int (-2)], [(3, .ref 45), (0, .ref 0), (1, .int 1), (2, .int x2)], hX, 0, 0)) rfl ?_
            exact Ex.ret rfl rfl) (by
            refine Rn.of (me := me199) rfl ⟨Nat.le_of_ble_eq_true rfl, rfl⟩ rfl ?_
            refine Ex.steps 2 (S' := (2, [.int 1, .ref 0], [(0, .ref 0), (1, .int 1), (2, .int x2)], hM, 0, 0)) rfl ?_
            refine Ex.callX (as := [.int 1]) (rest := []) (r := (some (.int 1))) (c1 := 0) (s1 := 0) rfl rfl rfl rfl xM1 xM2 rfl xM3 xM4 rfl okM (by
              refine Rn.of (me := me173) rfl ⟨Nat.le_of_ble_eq_true rfl, rfl⟩ rfl ?_
              refine Ex.steps 8 (S' := (10, [.int 2, .int 0, .int 1], [(0, .ref 0), (1, .int 1)], hM, 0, 0)) rfl ?_
              refine Ex.call0 (as := [.int 1, .int 0, .int 2]) (rest := []) (r := (some (.int 1))) (c1 := 0) (s1 := 0) rfl rfl rfl rfl (by
                refine Rn.of (me := me145) rfl ⟨Nat.le_of_ble_eq_true rfl, rfl⟩ rfl ?_
                refine Ex.steps 2 (S' := (2, [.int 0, .int 1], [(0, .int 1), (1, .int 0), (2, .int 2)], [], 0, 0)) rfl ?_
                refine Ex.steps 1 (S' := (5, [], [(0, .int 1), (1, .int 0), (2, .int 2)], [], 0, 0)) rfl ?_
                refine Ex.steps 2 (S' := (7, [.int 2, .int 1], [(0, .int 1), (1, .int 0), (2, .int 2)], [], 0, 0)) rfl ?_
                refine Ex.steps 1 (S' := (10, [], [(0, .int 1), (1, .int 0), (2, .int 2)], [], 0, 0)) rfl ?_
                refine Ex.steps 2 (S' := (15, [.int 1], [(0, .int 1), (1, .int 0), (2, .int 2)], [], 0, 0)) rfl ?_
                exact Ex.ret rfl rfl) ?_
              refine Ex.steps 0 (S' := (13, [.int 1], [(0, .ref 0), (1, .int 1)], hM, 0, 0)) rfl ?_
              exact Ex.ret rfl rfl) ?_
            refine Ex.steps 0 (S' := (5, [.int 1], [(0, .ref 0), (1, .int 1), (2, .int x2)], hM, 0, 0)) rfl ?_
            refine Ex.steps 1 (S' := (8, [], [(0, .ref 0), (1, .int 1), (2, .int x2)], hM, 0, 0)) rfl ?_
            refine Ex.steps 3 (S' := (11, [.int 4, .int 0, .int x2], [(0, .ref 0), (1, .int 1), (2, .int x2)], hM, 0, 0)) rfl ?_
            refine Ex.call0 (as := [.int x2, .int 0, .int 4]) (rest := []) (r := (some (.int 0))) (c1 := 0) (s1 := 0) rfl rfl rfl rfl (by
              refine Rn.of (me := me145) rfl ⟨Nat.le_of_ble_eq_true rfl, rfl⟩ rfl ?_
              refine Ex.steps 2 (S' := (2, [.int 0, .int x2], [(0, .int x2), (1, .int 0), (2, .int 4)], [], 0, 0)) rfl ?_
              refine Ex.icmp rfl (cT_lt h7) rfl ?_
              refine Ex.steps 1 (S' := (15, [.int 0], [(0, .int x2), (1, .int 0), (2, .int 4)], [], 0, 0)) rfl ?_
              exact Ex.ret rfl rfl) ?_
            refine Ex.steps 0 (S' := (14, [.int 0], [(0, .ref 0), (1, .int 1), (2, .int x2)], hM, 0, 0)) rfl ?_
            refine Ex.steps 1 (S' := (29, [], [(0, .ref 0), (1, .int 1), (2, .int x2)], hM, 0, 0)) rfl ?_
            refine Ex.steps 1 (S' := (31, [.int (-2)], [(0, .ref 0), (1, .int 1), (2, .int x2)], hM, 0, 0)) rfl ?_
            exact Ex.ret rfl rfl) (by decide)
        ·
          by_cases h8 : (4 : Int32) < x2
          ·
            exact mkI (x := (-2)) (c1 := 0) (s1 := 0) (c2 := 0) (s2 := 0) (by
              refine Rn.of (me := me91) rfl ⟨Nat.le_of_ble_eq_true rfl, rfl⟩ rfl ?_
              refine Ex.steps 2 (S' := (2, [.int 1, .ref 0], [(0, .ref 0), (1, .int 1), (2, .int x2)], hX, 0, 0)) rfl ?_
              refine Ex.callX (as := [.int 1]) (rest := []) (r := (some (.int 1))) (c1 := 0) (s1 := 0) rfl rfl rfl rfl xX1 xX2 rfl xX3 xX4 rfl okX (by
                refine Rn.of (me := me90) rfl ⟨Nat.le_of_ble_eq_true rfl, rfl⟩ rfl ?_
                refine Ex.steps 7 (S' := (11, [.int 2, .int 0, .int 1], [(0, .ref 0), (1, .int 1)], hX, 0, 0)) rfl ?_
                refine Ex.call0 (as := [.int 1, .int 0, .int 2]) (rest := []) (r := (some (.int 1))) (c1 := 0) (s1 := 0) rfl rfl rfl rfl (by
                  refine Rn.of (me := me12) rfl ⟨Nat.le_of_ble_eq_true rfl, rfl⟩ rfl ?_
                  refine Ex.steps 2 (S' := (2, [.int 0, .int 1], [(0, .int 1), (1, .int 0), (2, .int 2)], [], 0, 0)) rfl ?_
                  refine Ex.steps 1 (S' := (5, [], [(0, .int 1), (1, .int 0), (2, .int 2)], [], 0, 0)) rfl ?_
                  refine Ex.steps 2 (S' := (7, [.int 2, .int 1], [(0, .int 1), (1, .int 0), (2, .int 2)], [], 0, 0)) rfl ?_
                  refine Ex.steps 1 (S' := (10, [], [(0, .int 1), (1, .int 0), (2, .int 2)], [], 0, 0)) rfl ?_
                  refine Ex.steps 2 (S' := (15, [.int 1], [(0, .int 1), (1, .int 0), (2, .int 2)], [], 0, 0)) rfl ?_
                  exact Ex.ret rfl rfl) ?_
                refine Ex.steps 0 (S' := (14, [.int 1], [(0, .ref 0), (1, .int 1)], hX, 0, 0)) rfl ?_
                exact Ex.ret rfl rfl) ?_
              refine Ex.steps 0 (S' := (5, [.int 1], [(0, .ref 0), (1, .int 1), (2, .int x2)], hX, 0, 0)) rfl ?_
              refine Ex.steps 1 (S' := (11, [], [(0, .ref 0), (1, .int 1), (2, .int x2)], hX, 0, 0)) rfl ?_
              refine Ex.steps 7 (S' := (22, [.int x2], [(3, .ref 45), (0, .ref 0), (1, .int 1), (2, .int x2)], hX, 0, 0)) rfl ?_
              refine Ex.tsHi rfl h8 rfl rfl ?_
              refine Ex.steps 1 (S' := (95, [.int (-2)], [(3, .ref 45), (0, .ref 0), (1, .int 1), (2, .int x2)], hX, 0, 0)) rfl ?_
              exact Ex.ret rfl rfl) (by
              refine Rn.of (me := me199) rfl ⟨Nat.le_of_ble_eq_true rfl, rfl⟩ rfl ?_
              refine Ex.steps 2 (S' := (2, [.int 1, .ref 0], [(0, .ref 0), (1, .int 1), (2, .int x2)], hM, 0, 0)) rfl ?_
              refine Ex.callX (as := [.int 1]) (rest := []) (r := (some (.int 1))) (c1 := 0) (s1 := 0) rfl rfl rfl rfl xM1 xM2 rfl xM3 xM4 rfl okM (by
                refine Rn.of (me := me173) rfl ⟨Nat.le_of_ble_eq_true rfl, rfl⟩ rfl ?_
                refine Ex.steps 8 (S' := (10, [.int 2, .int 0, .int 1], [(0, .ref 0), (1, .int 1)], hM, 0, 0)) rfl ?_
                refine Ex.call0 (as := [.int 1, .int 0, .int 2]) (rest := []) (r := (some (.int 1))) (c1 := 0) (s1 := 0) rfl rfl rfl rfl (by
                  refine Rn.of (me := me145) rfl ⟨Nat.le_of_ble_eq_true rfl, rfl⟩ rfl ?_
                  refine Ex.steps 2 (S' := (2, [.int 0, .int 1], [(0, .int 1), (1, .int 0), (2, .int 2)], [], 0, 0)) rfl ?_
                  refine Ex.steps 1 (S' := (5, [], [(0, .int 1), (1, .int 0), (2, .int 2)], [], 0, 0)) rfl ?_
                  refine Ex.steps 2 (S' := (7, [.int 2, .int 1], [(0, .int 1), (1, .int 0), (2, .int 2)], [], 0, 0)) rfl ?_
                  refine Ex.steps 1 (S' := (10, [], [(0, .int 1), (1, .int 0), (2, .int 2)], [], 0, 0)) rfl ?_
                  refine Ex.steps 2 (S' := (15, [.int 1], [(0, .int 1), (1, .int 0), (2, .int 2)], [], 0, 0)) rfl ?_
                  exact Ex.ret rfl rfl) ?_
                refine Ex.steps 0 (S' := (13, [.int 1], [(0, .ref 0), (1, .int 1)], hM, 0, 0)) rfl ?_
                exact Ex.ret rfl rfl) ?_
              refine Ex.steps 0 (S' := (5, [.int 1], [(0, .ref 0), (1, .int 1), (2, .int x2)], hM, 0, 0)) rfl ?_
              refine Ex.steps 1 (S' := (8, [], [(0, .ref 0), (1, .int 1), (2, .int x2)], hM, 0, 0)) rfl ?_
              refine Ex.steps 3 (S' := (11, [.int 4, .int 0, .int x2], [(0, .ref 0), (1, .int 1), (2, .int x2)], hM, 0, 0)) rfl ?_
              refine Ex.call0 (as := [.int x2, .int 0, .int 4]) (rest := []) (r := (some (.int 0))) (c1 := 0) (s1 := 0) rfl rfl rfl rfl (by
                refine Rn.of (me := me145) rfl ⟨Nat.le_of_ble_eq_true rfl, rfl⟩ rfl ?_
                refine Ex.steps 2 (S' := (2, [.int 0, .int x2], [(0, .int x2), (1, .int 0), (2, .int 4)], [], 0, 0)) rfl ?_
                refine Ex.icmp rfl (cF_lt h7) rfl ?_
                refine Ex.steps 2 (S' := (7, [.int 4, .int x2], [(0, .int x2), (1, .int 0), (2, .int 4)], [], 0, 0)) rfl ?_
                refine Ex.icmp rfl (cT_gt h8) rfl ?_
                refine Ex.steps 1 (S' := (15, [.int 0], [(0, .int x2), (1, .int 0), (2, .int 4)], [], 0, 0)) rfl ?_
                exact Ex.ret rfl rfl) ?_
              refine Ex.steps 0 (S' := (14, [.int 0], [(0, .ref 0), (1, .int 1), (2, .int x2)], hM, 0, 0)) rfl ?_
              refine Ex.steps 1 (S' := (29, [], [(0, .ref 0), (1, .int 1), (2, .int x2)], hM, 0, 0)) rfl ?_
              refine Ex.steps 1 (S' := (31, [.int (-2)], [(0, .ref 0), (1, .int 1), (2, .int x2)], hM, 0, 0)) rfl ?_
              exact Ex.ret rfl rfl) (by decide)
          ·
            obtain ⟨k9, hkk9, rfl⟩ := en_b (x := x2) (n := 4) (by decide) h7 h8
            match k9, hkk9 with
            | 0, _ =>
              show BothI 91 199 [.int 1, .int 0]
              obtain ⟨hA, rA⟩ := closed (F := 99) (mi := 91) (as := [.ref 0, .int 1, .int 0]) (σ := hX) (v := .int 1) (c := 0) (s := 0) (by decide +kernel)
              obtain ⟨hB, rB⟩ := closed (F := 106) (mi := 199) (as := [.ref 0, .int 1, .int 0]) (σ := hM) (v := .int 1) (c := 0) (s := 0) (by decide +kernel)
              exact mkI rA rB (by decide)
            | 1, _ =>
              show BothI 91 199 [.int 1, .int 1]
              obtain ⟨hA, rA⟩ := closed (F := 83) (mi := 91) (as := [.ref 0, .int 1, .int 1]) (σ := hX) (v := .int 0) (c := 0) (s := 0) (by decide +kernel)
              obtain ⟨hB, rB⟩ := closed (F := 106) (mi := 199) (as := [.ref 0, .int 1, .int 1]) (σ := hM) (v := .int 0) (c := 0) (s := 0) (by decide +kernel)
              exact mkI rA rB (by decide)
            | 2, _ =>
              show BothI 91 199 [.int 1, .int 2]
              obtain ⟨hA, rA⟩ := closed (F := 83) (mi := 91) (as := [.ref 0, .int 1, .int 2]) (σ := hX) (v := .int 0) (c := 0) (s := 0) (by decide +kernel)
              obtain ⟨hB, rB⟩ := closed (F := 106) (mi := 199) (as := [.ref 0, .int 1, .int 2]) (σ := hM) (v := .int 0) (c := 0) (s := 0) (by decide +kernel)
              exact mkI rA rB (by decide)
            | 3, _ =>
              show BothI 91 199 [.int 1, .int 3]
              obtain ⟨hA, rA⟩ := closed (F := 83) (mi := 91) (as := [.ref 0, .int 1, .int 3]) (σ := hX) (v := .int 0) (c := 0) (s := 0) (by decide +kernel)
              obtain ⟨hB, rB⟩ := closed (F := 106) (mi := 199) (as := [.ref 0, .int 1, .int 3]) (σ := hM) (v := .int 0) (c := 0) (s := 0) (by decide +kernel)
              exact mkI rA rB (by decide)
            | 4, _ =>
              show BothI 91 199 [.int 1, .int 4]
              obtain ⟨hA, rA⟩ := closed (F := 83) (mi := 91) (as := [.ref 0, .int 1, .int 4]) (σ := hX) (v := .int 0) (c := 0) (s := 0) (by decide +kernel)
              obtain ⟨hB, rB⟩ := closed (F := 106) (mi := 199) (as := [.ref 0, .int 1, .int 4]) (σ := hM) (v := .int 0) (c := 0) (s := 0) (by decide +kernel)
              exact mkI rA rB (by decide)
            | k9 + 5, h => exact absurd h (by omega)
      | 2, _ =>
        show BothI 91 199 [.int 2, .int x2]
        by_cases h10 : (x2 : Int32) < 0
        ·
          exact mkI (x := (-2)) (c1 := 0) (s1 := 0) (c2 := 0) (s2 := 0) (by
            refine Rn.of (me := me91) rfl ⟨Nat.le_of_ble_eq_true rfl, rfl⟩ rfl ?_
            refine Ex.steps 2 (S' := (2, [.int 2, .ref 0], [(0, .ref 0), (1, .int 2), (2, .int x2)], hX, 0, 0)) rfl ?_
            refine Ex.callX (as := [.int 2]) (rest := []) (r := (some (.int 1))) (c1 := 0) (s1 := 0) rfl rfl rfl rfl xX1 xX2 rfl xX3 xX4 rfl okX (by
              refine Rn.of (me := me90) rfl ⟨Nat.le_of_ble_eq_true rfl, rfl⟩ rfl ?_
              refine Ex.steps 7 (S' := (11, [.int 2, .int 0, .int 2], [(0, .ref 0), (1, .int 2)], hX, 0, 0)) rfl ?_
              refine Ex.call0 (as := [.int 2, .int 0, .int 2]) (rest := []) (r := (some (.int 1))) (c1 := 0) (s1 := 0) rfl rfl rfl rfl (by
                refine Rn.of (me := me12) rfl ⟨Nat.le_of_ble_eq_true rfl, rfl⟩ rfl ?_
                refine Ex.steps 2 (S' := (2, [.int 0, .int 2], [(0, .int 2), (1, .int 0), (2, .int 2)], [], 0, 0)) rfl ?_
                refine Ex.steps 1 (S' := (5, [], [(0, .int 2), (1, .int 0), (2, .int 2)], [], 0, 0)) rfl ?_
                refine Ex.steps 2 (S' := (7, [.int 2, .int 2], [(0, .int 2), (1, .int 0), (2, .int 2)], [], 0, 0)) rfl ?_
                refine Ex.steps 1 (S' := (10, [], [(0, .int 2), (1, .int 0), (2, .int 2)], [], 0, 0)) rfl ?_
                refine Ex.steps 2 (S' := (15, [.int 1], [(0, .int 2), (1, .int 0), (2, .int 2)], [], 0, 0)) rfl ?_
                exact Ex.ret rfl rfl) ?_
              refine Ex.steps 0 (S' := (14, [.int 1], [(0, .ref 0), (1, .int 2)], hX, 0, 0)) rfl ?_
              exact Ex.ret rfl rfl) ?_
            refine Ex.steps 0 (S' := (5, [.int 1], [(0, .ref 0), (1, .int 2), (2, .int x2)], hX, 0, 0)) rfl ?_
            refine Ex.steps 1 (S' := (11, [], [(0, .ref 0), (1, .int 2), (2, .int x2)], hX, 0, 0)) rfl ?_
            refine Ex.steps 7 (S' := (22, [.int x2], [(3, .ref 47), (0, .ref 0), (1, .int 2), (2, .int x2)], hX, 0, 0)) rfl ?_
            refine Ex.tsLo rfl h10 rfl rfl ?_
            refine Ex.steps 1 (S' := (95, [.int (-2)], [(3, .ref 47), (0, .ref 0), (1, .int 2), (2, .int x2)], hX, 0, 0)) rfl ?_
            exact Ex.ret rfl rfl) (by
            refine Rn.of (me := me199) rfl ⟨Nat.le_of_ble_eq_true rfl, rfl⟩ rfl ?_
            refine Ex.steps 2 (S' := (2, [.int 2, .ref 0], [(0, .ref 0), (1, .int 2), (2, .int x2)], hM, 0, 0)) rfl ?_
            refine Ex.callX (as := [.int 2]) (rest := []) (r := (some (.int 1))) (c1 := 0) (s1 := 0) rfl rfl rfl rfl xM1 xM2 rfl xM3 xM4 rfl okM (by
              refine Rn.of (me := me173) rfl ⟨Nat.le_of_ble_eq_true rfl, rfl⟩ rfl ?_
              refine Ex.steps 8 (S' := (10, [.int 2, .int 0, .int 2], [(0, .ref 0), (1, .int 2)], hM, 0, 0)) rfl ?_
              refine Ex.call0 (as := [.int 2, .int 0, .int 2]) (rest := []) (r := (some (.int 1))) (c1 := 0) (s1 := 0) rfl rfl rfl rfl (by
                refine Rn.of (me := me145) rfl ⟨Nat.le_of_ble_eq_true rfl, rfl⟩ rfl ?_
                refine Ex.steps 2 (S' := (2, [.int 0, .int 2], [(0, .int 2), (1, .int 0), (2, .int 2)], [], 0, 0)) rfl ?_
                refine Ex.steps 1 (S' := (5, [], [(0, .int 2), (1, .int 0), (2, .int 2)], [], 0, 0)) rfl ?_
                refine Ex.steps 2 (S' := (7, [.int 2, .int 2], [(0, .int 2), (1, .int 0), (2, .int 2)], [], 0, 0)) rfl ?_
                refine Ex.steps 1 (S' := (10, [], [(0, .int 2), (1, .int 0), (2, .int 2)], [], 0, 0)) rfl ?_
                refine Ex.steps 2 (S' := (15, [.int 1], [(0, .int 2), (1, .int 0), (2, .int 2)], [], 0, 0)) rfl ?_
                exact Ex.ret rfl rfl) ?_
              refine Ex.steps 0 (S' := (13, [.int 1], [(0, .ref 0), (1, .int 2)], hM, 0, 0)) rfl ?_
              exact Ex.ret rfl rfl) ?_
            refine Ex.steps 0 (S' := (5, [.int 1], [(0, .ref 0), (1, .int 2), (2, .int x2)], hM, 0, 0)) rfl ?_
            refine Ex.steps 1 (S' := (8, [], [(0, .ref 0), (1, .int 2), (2, .int x2)], hM, 0, 0)) rfl ?_
            refine Ex.steps 3 (S' := (11, [.int 4, .int 0, .int x2], [(0, .ref 0), (1, .int 2), (2, .int x2)], hM, 0, 0)) rfl ?_
            refine Ex.call0 (as := [.int x2, .int 0, .int 4]) (rest := []) (r := (some (.int 0))) (c1 := 0) (s1 := 0) rfl rfl rfl rfl (by
              refine Rn.of (me := me145) rfl ⟨Nat.le_of_ble_eq_true rfl, rfl⟩ rfl ?_
              refine Ex.steps 2 (S' := (2, [.int 0, .int x2], [(0, .int x2), (1, .int 0), (2, .int 4)], [], 0, 0)) rfl ?_
              refine Ex.icmp rfl (cT_lt h10) rfl ?_
              refine Ex.steps 1 (S' := (15, [.int 0], [(0, .int x2), (1, .int 0), (2, .int 4)], [], 0, 0)) rfl ?_
              exact Ex.ret rfl rfl) ?_
            refine Ex.steps 0 (S' := (14, [.int 0], [(0, .ref 0), (1, .int 2), (2, .int x2)], hM, 0, 0)) rfl ?_
            refine Ex.steps 1 (S' := (29, [], [(0, .ref 0), (1, .int 2), (2, .int x2)], hM, 0, 0)) rfl ?_
            refine Ex.steps 1 (S' := (31, [.int (-2)], [(0, .ref 0), (1, .int 2), (2, .int x2)], hM, 0, 0)) rfl ?_
            exact Ex.ret rfl rfl) (by decide)
        ·
          by_cases h11 : (4 : Int32) < x2
          ·
            exact mkI (x := (-2)) (c1 := 0) (s1 := 0) (c2 := 0) (s2 := 0) (by
              refine Rn.of (me := me91) rfl ⟨Nat.le_of_ble_eq_true rfl, rfl⟩ rfl ?_
              refine Ex.steps 2 (S' := (2, [.int 2, .ref 0], [(0, .ref 0), (1, .int 2), (2, .int x2)], hX, 0, 0)) rfl ?_
              refine Ex.callX (as := [.int 2]) (rest := []) (r := (some (.int 1))) (c1 := 0) (s1 := 0) rfl rfl rfl rfl xX1 xX2 rfl xX3 xX4 rfl okX (by
                refine Rn.of (me := me90) rfl ⟨Nat.le_of_ble_eq_true rfl, rfl⟩ rfl ?_
                refine Ex.steps 7 (S' := (11, [.int 2, .int 0, .int 2], [(0, .ref 0), (1, .int 2)], hX, 0, 0)) rfl ?_
                refine Ex.call0 (as := [.int 2, .int 0, .int 2]) (rest := []) (r := (some (.int 1))) (c1 := 0) (s1 := 0) rfl rfl rfl rfl (by
                  refine Rn.of (me := me12) rfl ⟨Nat.le_of_ble_eq_true rfl, rfl⟩ rfl ?_
                  refine Ex.steps 2 (S' := (2, [.int 0, .int 2], [(0, .int 2), (1, .int 0), (2, .int 2)], [], 0, 0)) rfl ?_
                  refine Ex.steps 1 (S' := (5, [], [(0, .int 2), (1, .int 0), (2, .int 2)], [], 0, 0)) rfl ?_
                  refine Ex.steps 2 (S' := (7, [.int 2, .int 2], [(0, .int 2), (1, .int 0), (2, .int 2)], [], 0, 0)) rfl ?_
                  refine Ex.steps 1 (S' := (10, [], [(0, .int 2), (1, .int 0), (2, .int 2)], [], 0, 0)) rfl ?_
                  refine Ex.steps 2 (S' := (15, [.int 1], [(0, .int 2), (1, .int 0), (2, .int 2)], [], 0, 0)) rfl ?_
                  exact Ex.ret rfl rfl) ?_
                refine Ex.steps 0 (S' := (14, [.int 1], [(0, .ref 0), (1, .int 2)], hX, 0, 0)) rfl ?_
                exact Ex.ret rfl rfl) ?_
              refine Ex.steps 0 (S' := (5, [.int 1], [(0, .ref 0), (1, .int 2), (2, .int x2)], hX, 0, 0)) rfl ?_
              refine Ex.steps 1 (S' := (11, [], [(0, .ref 0), (1, .int 2), (2, .int x2)], hX, 0, 0)) rfl ?_
              refine Ex.steps 7 (S' := (22, [.int x2], [(3, .ref 47), (0, .ref 0), (1, .int 2), (2, .int x2)], hX, 0, 0)) rfl ?_
              refine Ex.tsHi rfl h11 rfl rfl ?_
              refine Ex.steps 1 (S' := (95, [.int (-2)], [(3, .ref 47), (0, .ref 0), (1, .int 2), (2, .int x2)], hX, 0, 0)) rfl ?_
              exact Ex.ret rfl rfl) (by
              refine Rn.of (me := me199) rfl ⟨Nat.le_of_ble_eq_true rfl, rfl⟩ rfl ?_
              refine Ex.steps 2 (S' := (2, [.int 2, .ref 0], [(0, .ref 0), (1, .int 2), (2, .int x2)], hM, 0, 0)) rfl ?_
              refine Ex.callX (as := [.int 2]) (rest := []) (r := (some (.int 1))) (c1 := 0) (s1 := 0) rfl rfl rfl rfl xM1 xM2 rfl xM3 xM4 rfl okM (by
                refine Rn.of (me := me173) rfl ⟨Nat.le_of_ble_eq_true rfl, rfl⟩ rfl ?_
                refine Ex.steps 8 (S' := (10, [.int 2, .int 0, .int 2], [(0, .ref 0), (1, .int 2)], hM, 0, 0)) rfl ?_
                refine Ex.call0 (as := [.int 2, .int 0, .int 2]) (rest := []) (r := (some (.int 1))) (c1 := 0) (s1 := 0) rfl rfl rfl rfl (by
                  refine Rn.of (me := me145) rfl ⟨Nat.le_of_ble_eq_true rfl, rfl⟩ rfl ?_
                  refine Ex.steps 2 (S' := (2, [.int 0, .int 2], [(0, .int 2), (1, .int 0), (2, .int 2)], [], 0, 0)) rfl ?_
                  refine Ex.steps 1 (S' := (5, [], [(0, .int 2), (1, .int 0), (2, .int 2)], [], 0, 0)) rfl ?_
                  refine Ex.steps 2 (S' := (7, [.int 2, .int 2], [(0, .int 2), (1, .int 0), (2, .int 2)], [], 0, 0)) rfl ?_
                  refine Ex.steps 1 (S' := (10, [], [(0, .int 2), (1, .int 0), (2, .int 2)], [], 0, 0)) rfl ?_
                  refine Ex.steps 2 (S' := (15, [.int 1], [(0, .int 2), (1, .int 0), (2, .int 2)], [], 0, 0)) rfl ?_
                  exact Ex.ret rfl rfl) ?_
                refine Ex.steps 0 (S' := (13, [.int 1], [(0, .ref 0), (1, .int 2)], hM, 0, 0)) rfl ?_
                exact Ex.ret rfl rfl) ?_
              refine Ex.steps 0 (S' := (5, [.int 1], [(0, .ref 0), (1, .int 2), (2, .int x2)], hM, 0, 0)) rfl ?_
              refine Ex.steps 1 (S' := (8, [], [(0, .ref 0), (1, .int 2), (2, .int x2)], hM, 0, 0)) rfl ?_
              refine Ex.steps 3 (S' := (11, [.int 4, .int 0, .int x2], [(0, .ref 0), (1, .int 2), (2, .int x2)], hM, 0, 0)) rfl ?_
              refine Ex.call0 (as := [.int x2, .int 0, .int 4]) (rest := []) (r := (some (.int 0))) (c1 := 0) (s1 := 0) rfl rfl rfl rfl (by
                refine Rn.of (me := me145) rfl ⟨Nat.le_of_ble_eq_true rfl, rfl⟩ rfl ?_
                refine Ex.steps 2 (S' := (2, [.int 0, .int x2], [(0, .int x2), (1, .int 0), (2, .int 4)], [], 0, 0)) rfl ?_
                refine Ex.icmp rfl (cF_lt h10) rfl ?_
                refine Ex.steps 2 (S' := (7, [.int 4, .int x2], [(0, .int x2), (1, .int 0), (2, .int 4)], [], 0, 0)) rfl ?_
                refine Ex.icmp rfl (cT_gt h11) rfl ?_
                refine Ex.steps 1 (S' := (15, [.int 0], [(0, .int x2), (1, .int 0), (2, .int 4)], [], 0, 0)) rfl ?_
                exact Ex.ret rfl rfl) ?_
              refine Ex.steps 0 (S' := (14, [.int 0], [(0, .ref 0), (1, .int 2), (2, .int x2)], hM, 0, 0)) rfl ?_
              refine Ex.steps 1 (S' := (29, [], [(0, .ref 0), (1, .int 2), (2, .int x2)], hM, 0, 0)) rfl ?_
              refine Ex.steps 1 (S' := (31, [.int (-2)], [(0, .ref 0), (1, .int 2), (2, .int x2)], hM, 0, 0)) rfl ?_
              exact Ex.ret rfl rfl) (by decide)
          ·
            obtain ⟨k12, hkk12, rfl⟩ := en_b (x := x2) (n := 4) (by decide) h10 h11
            match k12, hkk12 with
            | 0, _ =>
              show BothI 91 199 [.int 2, .int 0]
              obtain ⟨hA, rA⟩ := closed (F := 99) (mi := 91) (as := [.ref 0, .int 2, .int 0]) (σ := hX) (v := .int 1) (c := 0) (s := 0) (by decide +kernel)
              obtain ⟨hB, rB⟩ := closed (F := 106) (mi := 199) (as := [.ref 0, .int 2, .int 0]) (σ := hM) (v := .int 1) (c := 0) (s := 0) (by decide +kernel)
              exact mkI rA rB (by decide)
            | 1, _ =>
              show BothI 91 199 [.int 2, .int 1]
              obtain ⟨hA, rA⟩ := closed (F := 83) (mi := 91) (as := [.ref 0, .int 2, .int 1]) (σ := hX) (v := .int 0) (c := 0) (s := 0) (by decide +kernel)
              obtain ⟨hB, rB⟩ := closed (F := 106) (mi := 199) (as := [.ref 0, .int 2, .int 1]) (σ := hM) (v := .int 0) (c := 0) (s := 0) (by decide +kernel)
              exact mkI rA rB (by decide)
            | 2, _ =>
              show BothI 91 199 [.int 2, .int 2]
              obtain ⟨hA, rA⟩ := closed (F := 83) (mi := 91) (as := [.ref 0, .int 2, .int 2]) (σ := hX) (v := .int 0) (c := 0) (s := 0) (by decide +kernel)
              obtain ⟨hB, rB⟩ := closed (F := 106) (mi := 199) (as := [.ref 0, .int 2, .int 2]) (σ := hM) (v := .int 0) (c := 0) (s := 0) (by decide +kernel)
              exact mkI rA rB (by decide)
            | 3, _ =>
              show BothI 91 199 [.int 2, .int 3]
              obtain ⟨hA, rA⟩ := closed (F := 83) (mi := 91) (as := [.ref 0, .int 2, .int 3]) (σ := hX) (v := .int 0) (c := 0) (s := 0) (by decide +kernel)
              obtain ⟨hB, rB⟩ := closed (F := 106) (mi := 199) (as := [.ref 0, .int 2, .int 3]) (σ := hM) (v := .int 0) (c := 0) (s := 0) (by decide +kernel)
              exact mkI rA rB (by decide)
            | 4, _ =>
              show BothI 91 199 [.int 2, .int 4]
              obtain ⟨hA, rA⟩ := closed (F := 83) (mi := 91) (as := [.ref 0, .int 2, .int 4]) (σ := hX) (v := .int 0) (c := 0) (s := 0) (by decide +kernel)
              obtain ⟨hB, rB⟩ := closed (F := 106) (mi := 199) (as := [.ref 0, .int 2, .int 4]) (σ := hM) (v := .int 0) (c := 0) (s := 0) (by decide +kernel)
              exact mkI rA rB (by decide)
            | k12 + 5, h => exact absurd h (by omega)
      | k3 + 3, h => exact absurd h (by omega)
