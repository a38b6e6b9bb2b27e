/-! ===== both answer alike: aside ===== -/
set_option maxHeartbeats 8000000 in
set_option maxRecDepth 100000 in
theorem both_aside (x1 x2 : Int32) : BothI 25 153 [.int x1, .int x2] := by
  by_cases h1 : (x1 : Int32) < 1
  ·
    exact mkI (x := (-2)) (c1 := 0) (s1 := 0) (c2 := 0) (s2 := 0) (by
      refine Rn.of (me := me25) rfl ⟨Nat.le_of_ble_eq_true rfl, rfl⟩ rfl ?_
      refine Ex.steps 3 (S' := (4, [.int 20, .int 1, .int x1], [(0, .ref 0), (1, .int x1), (2, .int x2)], hX, 0, 0)) rfl ?_
      refine Ex.call0 (as := [.int x1, .int 1, .int 20]) (rest := []) (r := (some (.int 0))) (c1 := 0) (s1 := 0) rfl rfl rfl rfl (by
        refine Rn.of (me := me12) rfl ⟨Nat.le_of_ble_eq_true rfl, rfl⟩ rfl ?_
        refine Ex.steps 2 (S' := (2, [.int 1, .int x1], [(0, .int x1), (1, .int 1), (2, .int 20)], [], 0, 0)) rfl ?_
        refine Ex.icmp rfl (cT_lt h1) rfl ?_
        refine Ex.steps 1 (S' := (15, [.int 0], [(0, .int x1), (1, .int 1), (2, .int 20)], [], 0, 0)) rfl ?_
        exact Ex.ret rfl rfl) ?_
      refine Ex.steps 2 (S' := (22, [.int (-2)], [(0, .ref 0), (1, .int x1), (2, .int x2)], hX, 0, 0)) rfl ?_
      exact Ex.ret rfl rfl) (by
      refine Rn.of (me := me153) rfl ⟨Nat.le_of_ble_eq_true rfl, rfl⟩ rfl ?_
      refine Ex.steps 3 (S' := (4, [.int 20, .int 1, .int x1], [(0, .ref 0), (1, .int x1), (2, .int x2)], hM, 0, 0)) rfl ?_
      refine Ex.call0 (as := [.int x1, .int 1, .int 20]) (rest := []) (r := (some (.int 0))) (c1 := 0) (s1 := 0) rfl rfl rfl rfl (by
        refine Rn.of (me := me145) rfl ⟨Nat.le_of_ble_eq_true rfl, rfl⟩ rfl ?_
        refine Ex.steps 2 (S' := (2, [.int 1, .int x1], [(0, .int x1), (1, .int 1), (2, .int 20)], [], 0, 0)) rfl ?_
        refine Ex.icmp rfl (cT_lt h1) rfl ?_
        refine Ex.steps 1 (S' := (15, [.int 0], [(0, .int x1), (1, .int 1), (2, .int 20)], [], 0, 0)) rfl ?_
        exact Ex.ret rfl rfl) ?_
      refine Ex.steps 2 (S' := (22, [.int (-2)], [(0, .ref 0), (1, .int x1), (2, .int x2)], hM, 0, 0)) rfl ?_
      exact Ex.ret rfl rfl) (by decide)
  ·
    by_cases h2 : (20 : Int32) < x1
    ·
      exact mkI (x := (-2)) (c1 := 0) (s1 := 0) (c2 := 0) (s2 := 0) (by
        refine Rn.of (me := me25) rfl ⟨Nat.le_of_ble_eq_true rfl, rfl⟩ rfl ?_
        refine Ex.steps 3 (S' := (4, [.int 20, .int 1, .int x1], [(0, .ref 0), (1, .int x1), (2, .int x2)], hX, 0, 0)) rfl ?_
        refine Ex.call0 (as := [.int x1, .int 1, .int 20]) (rest := []) (r := (some (.int 0))) (c1 := 0) (s1 := 0) rfl rfl rfl rfl (by
          refine Rn.of (me := me12) rfl ⟨Nat.le_of_ble_eq_true rfl, rfl⟩ rfl ?_
          refine Ex.steps 2 (S' := (2, [.int 1, .int x1], [(0, .int x1), (1, .int 1), (2, .int 20)], [], 0, 0)) rfl ?_
          refine Ex.icmp rfl (cF_lt h1) rfl ?_
          refine Ex.steps 2 (S' := (7, [.int 20, .int x1], [(0, .int x1), (1, .int 1), (2, .int 20)], [], 0, 0)) rfl ?_
          refine Ex.icmp rfl (cT_gt h2) rfl ?_
          refine Ex.steps 1 (S' := (15, [.int 0], [(0, .int x1), (1, .int 1), (2, .int 20)], [], 0, 0)) rfl ?_
          exact Ex.ret rfl rfl) ?_
        refine Ex.steps 2 (S' := (22, [.int (-2)], [(0, .ref 0), (1, .int x1), (2, .int x2)], hX, 0, 0)) rfl ?_
        exact Ex.ret rfl rfl) (by
        refine Rn.of (me := me153) rfl ⟨Nat.le_of_ble_eq_true rfl, rfl⟩ rfl ?_
        refine Ex.steps 3 (S' := (4, [.int 20, .int 1, .int x1], [(0, .ref 0), (1, .int x1), (2, .int x2)], hM, 0, 0)) rfl ?_
        refine Ex.call0 (as := [.int x1, .int 1, .int 20]) (rest := []) (r := (some (.int 0))) (c1 := 0) (s1 := 0) rfl rfl rfl rfl (by
          refine Rn.of (me := me145) rfl ⟨Nat.le_of_ble_eq_true rfl, rfl⟩ rfl ?_
          refine Ex.steps 2 (S' := (2, [.int 1, .int x1], [(0, .int x1), (1, .int 1), (2, .int 20)], [], 0, 0)) rfl ?_
          refine Ex.icmp rfl (cF_lt h1) rfl ?_
          refine Ex.steps 2 (S' := (7, [.int 20, .int x1], [(0, .int x1), (1, .int 1), (2, .int 20)], [], 0, 0)) rfl ?_
          refine Ex.icmp rfl (cT_gt h2) rfl ?_
          refine Ex.steps 1 (S' := (15, [.int 0], [(0, .int x1), (1, .int 1), (2, .int 20)], [], 0, 0)) rfl ?_
          exact Ex.ret rfl rfl) ?_
        refine Ex.steps 2 (S' := (22, [.int (-2)], [(0, .ref 0), (1, .int x1), (2, .int x2)], hM, 0, 0)) rfl ?_
        exact Ex.ret rfl rfl) (by decide)
    ·
      by_cases h3 : (x2 : Int32) < 1
      ·
        exact mkI (x := (-2)) (c1 := 0) (s1 := 0) (c2 := 0) (s2 := 0) (by
          refine Rn.of (me := me25) rfl ⟨Nat.le_of_ble_eq_true rfl, rfl⟩ rfl ?_
          refine Ex.steps 3 (S' := (4, [.int 20, .int 1, .int x1], [(0, .ref 0), (1, .int x1), (2, .int x2)], hX, 0, 0)) rfl ?_
          refine Ex.call0 (as := [.int x1, .int 1, .int 20]) (rest := []) (r := (some (.int 1))) (c1 := 0) (s1 := 0) rfl rfl rfl rfl (by
            refine Rn.of (me := me12) rfl ⟨Nat.le_of_ble_eq_true rfl, rfl⟩ rfl ?_
            refine Ex.steps 2 (S' := (2, [.int 1, .int x1], [(0, .int x1), (1, .int 1), (2, .int 20)], [], 0, 0)) rfl ?_
            refine Ex.icmp rfl (cF_lt h1) rfl ?_
            refine Ex.steps 2 (S' := (7, [.int 20, .int x1], [(0, .int x1), (1, .int 1), (2, .int 20)], [], 0, 0)) rfl ?_
            refine Ex.icmp rfl (cF_gt h2) rfl ?_
            refine Ex.steps 2 (S' := (15, [.int 1], [(0, .int x1), (1, .int 1), (2, .int 20)], [], 0, 0)) rfl ?_
            exact Ex.ret rfl rfl) ?_
          refine Ex.steps 4 (S' := (14, [.int 50, .int 1, .int x2], [(0, .ref 0), (1, .int x1), (2, .int x2)], hX, 0, 0)) rfl ?_
          refine Ex.call0 (as := [.int x2, .int 1, .int 50]) (rest := []) (r := (some (.int 0))) (c1 := 0) (s1 := 0) rfl rfl rfl rfl (by
            refine Rn.of (me := me12) rfl ⟨Nat.le_of_ble_eq_true rfl, rfl⟩ rfl ?_
            refine Ex.steps 2 (S' := (2, [.int 1, .int x2], [(0, .int x2), (1, .int 1), (2, .int 50)], [], 0, 0)) rfl ?_
            refine Ex.icmp rfl (cT_lt h3) rfl ?_
            refine Ex.steps 1 (S' := (15, [.int 0], [(0, .int x2), (1, .int 1), (2, .int 50)], [], 0, 0)) rfl ?_
            exact Ex.ret rfl rfl) ?_
          refine Ex.steps 2 (S' := (22, [.int (-2)], [(0, .ref 0), (1, .int x1), (2, .int x2)], hX, 0, 0)) rfl ?_
          exact Ex.ret rfl rfl) (by
          refine Rn.of (me := me153) rfl ⟨Nat.le_of_ble_eq_true rfl, rfl⟩ rfl ?_
          refine Ex.steps 3 (S' := (4, [.int 20, .int 1, .int x1], [(0, .ref 0), (1, .int x1), (2, .int x2)], hM, 0, 0)) rfl ?_
          refine Ex.call0 (as := [.int x1, .int 1, .int 20]) (rest := []) (r := (some (.int 1))) (c1 := 0) (s1 := 0) rfl rfl rfl rfl (by
            refine Rn.of (me := me145) rfl ⟨Nat.le_of_ble_eq_true rfl, rfl⟩ rfl ?_
            refine Ex.steps 2 (S' := (2, [.int 1, .int x1], [(0, .int x1), (1, .int 1), (2, .int 20)], [], 0, 0)) rfl ?_
            refine Ex.icmp rfl (cF_lt h1) rfl ?_
            refine Ex.steps 2 (S' := (7, [.int 20, .int x1], [(0, .int x1), (1, .int 1), (2, .int 20)], [], 0, 0)) rfl ?_
            refine Ex.icmp rfl (cF_gt h2) rfl ?_
            refine Ex.steps 2 (S' := (15, [.int 1], [(0, .int x1), (1, .int 1), (2, .int 20)], [], 0, 0)) rfl ?_
            exact Ex.ret rfl rfl) ?_
          refine Ex.steps 4 (S' := (14, [.int 50, .int 1, .int x2], [(0, .ref 0), (1, .int x1), (2, .int x2)], hM, 0, 0)) rfl ?_
          refine Ex.call0 (as := [.int x2, .int 1, .int 50]) (rest := []) (r := (some (.int 0))) (c1 := 0) (s1 := 0) rfl rfl rfl rfl (by
            refine Rn.of (me := me145) rfl ⟨Nat.le_of_ble_eq_true rfl, rfl⟩ rfl ?_
            refine Ex.steps 2 (S' := (2, [.int 1, .int x2], [(0, .int x2), (1, .int 1), (2, .int 50)], [], 0, 0)) rfl ?_
            refine Ex.icmp rfl (cT_lt h3) rfl ?_
            refine Ex.steps 1 (S' := (15, [.int 0], [(0, .int x2), (1, .int 1), (2, .int 50)], [], 0, 0)) rfl ?_
            exact Ex.ret rfl rfl) ?_
          refine Ex.steps 2 (S' := (22, [.int (-2)], [(0, .ref 0), (1, .int x1), (2, .int x2)], hM, 0, 0)) rfl ?_
          exact Ex.ret rfl rfl) (by decide)
      ·
        by_cases h4 : (50 : Int32) < x2
        ·
          exact mkI (x := (-2)) (c1 := 0) (s1 := 0) (c2 := 0) (s2 := 0) (by
            refine Rn.of (me := me25) rfl ⟨Nat.le_of_ble_eq_true rfl, rfl⟩ rfl ?_
            refine Ex.steps 3 (S' := (4, [.int 20, .int 1, .int x1], [(0, .ref 0), (1, .int x1), (2, .int x2)], hX, 0, 0)) rfl ?_
            refine Ex.call0 (as := [.int x1, .int 1, .int 20]) (rest := []) (r := (some (.int 1))) (c1 := 0) (s1 := 0) rfl rfl rfl rfl (by
              refine Rn.of (me := me12) rfl ⟨Nat.le_of_ble_eq_true rfl, rfl⟩ rfl ?_
              refine Ex.steps 2 (S' := (2, [.int 1, .int x1], [(0, .int x1), (1, .int 1), (2, .int 20)], [], 0, 0)) rfl ?_
              refine Ex.icmp rfl (cF_lt h1) rfl ?_
              refine Ex.steps 2 (S' := (7, [.int 20, .int x1], [(0, .int x1), (1, .int 1), (2, .int 20)], [], 0, 0)) rfl ?_
              refine Ex.icmp rfl (cF_gt h2) rfl ?_
              refine Ex.steps 2 (S' := (15, [.int 1], [(0, .int x1), (1, .int 1), (2, .int 20)], [], 0, 0)) rfl ?_
              exact Ex.ret rfl rfl) ?_
            refine Ex.steps 4 (S' := (14, [.int 50, .int 1, .int x2], [(0, .ref 0), (1, .int x1), (2, .int x2)], hX, 0, 0)) rfl ?_
            refine Ex.call0 (as := [.int x2, .int 1, .int 50]) (rest := []) (r := (some (.int 0))) (c1 := 0) (s1 := 0) rfl rfl rfl rfl (by
              refine Rn.of (me := me12) rfl ⟨Nat.le_of_ble_eq_true rfl, rfl⟩ rfl ?_
              refine Ex.steps 2 (S' := (2, [.int 1, .int x2], [(0, .int x2), (1, .int 1), (2, .int 50)], [], 0, 0)) rfl ?_
              refine Ex.icmp rfl (cF_lt h3) rfl ?_
              refine Ex.steps 2 (S' := (7, [.int 50, .int x2], [(0, .int x2), (1, .int 1), (2, .int 50)], [], 0, 0)) rfl ?_
              refine Ex.icmp rfl (cT_gt h4) rfl ?_
              refine Ex.steps 1 (S' := (15, [.int 0], [(0, .int x2), (1, .int 1), (2, .int 50)], [], 0, 0)) rfl ?_
              exact Ex.ret rfl rfl) ?_
            refine Ex.steps 2 (S' := (22, [.int (-2)], [(0, .ref 0), (1, .int x1), (2, .int x2)], hX, 0, 0)) rfl ?_
            exact Ex.ret rfl rfl) (by
            refine Rn.of (me := me153) rfl ⟨Nat.le_of_ble_eq_true rfl, rfl⟩ rfl ?_
            refine Ex.steps 3 (S' := (4, [.int 20, .int 1, .int x1], [(0, .ref 0), (1, .int x1), (2, .int x2)], hM, 0, 0)) rfl ?_
            refine Ex.call0 (as := [.int x1, .int 1, .int 20]) (rest := []) (r := (some (.int 1))) (c1 := 0) (s1 := 0) rfl rfl rfl rfl (by
              refine Rn.of (me := me145) rfl ⟨Nat.le_of_ble_eq_true rfl, rfl⟩ rfl ?_
              refine Ex.steps 2 (S' := (2, [.int 1, .int x1], [(0, .int x1), (1, .int 1), (2, .int 20)], [], 0, 0)) rfl ?_
              refine Ex.icmp rfl (cF_lt h1) rfl ?_
              refine Ex.steps 2 (S' := (7, [.int 20, .int x1], [(0, .int x1), (1, .int 1), (2, .int 20)], [], 0, 0)) rfl ?_
              refine Ex.icmp rfl (cF_gt h2) rfl ?_
              refine Ex.steps 2 (S' := (15, [.int 1], [(0, .int x1), (1, .int 1), (2, .int 20)], [], 0, 0)) rfl ?_
              exact Ex.ret rfl rfl) ?_
            refine Ex.steps 4 (S' := (14, [.int 50, .int 1, .int x2], [(0, .ref 0), (1, .int x1), (2, .int x2)], hM, 0, 0)) rfl ?_
            refine Ex.call0 (as := [.int x2, .int 1, .int 50]) (rest := []) (r := (some (.int 0))) (c1 := 0) (s1 := 0) rfl rfl rfl rfl (by
              refine Rn.of (me := me145) rfl ⟨Nat.le_of_ble_eq_true rfl, rfl⟩ rfl ?_
              refine Ex.steps 2 (S' := (2, [.int 1, .int x2], [(0, .int x2), (1, .int 1), (2, .int 50)], [], 0, 0)) rfl ?_
              refine Ex.icmp rfl (cF_lt h3) rfl ?_
              refine Ex.steps 2 (S' := (7, [.int 50, .int x2], [(0, .int x2), (1, .int 1), (2, .int 50)], [], 0, 0)) rfl ?_
              refine Ex.icmp rfl (cT_gt h4) rfl ?_
              refine Ex.steps 1 (S' := (15, [.int 0], [(0, .int x2), (1, .int 1), (2, .int 50)], [], 0, 0)) rfl ?_
              exact Ex.ret rfl rfl) ?_
            refine Ex.steps 2 (S' := (22, [.int (-2)], [(0, .ref 0), (1, .int x1), (2, .int x2)], hM, 0, 0)) rfl ?_
            exact Ex.ret rfl rfl) (by decide)
        ·
          exact mkI (x := 1) (c1 := 0) (s1 := 0) (c2 := 0) (s2 := 0) (by
            refine Rn.of (me := me25) rfl ⟨Nat.le_of_ble_eq_true rfl, rfl⟩ rfl ?_
            refine Ex.steps 3 (S' := (4, [.int 20, .int 1, .int x1], [(0, .ref 0), (1, .int x1), (2, .int x2)], hX, 0, 0)) rfl ?_
            refine Ex.call0 (as := [.int x1, .int 1, .int 20]) (rest := []) (r := (some (.int 1))) (c1 := 0) (s1 := 0) rfl rfl rfl rfl (by
              refine Rn.of (me := me12) rfl ⟨Nat.le_of_ble_eq_true rfl, rfl⟩ rfl ?_
              refine Ex.steps 2 (S' := (2, [.int 1, .int x1], [(0, .int x1), (1, .int 1), (2, .int 20)], [], 0, 0)) rfl ?_
              refine Ex.icmp rfl (cF_lt h1) rfl ?_
              refine Ex.steps 2 (S' := (7, [.int 20, .int x1], [(0, .int x1), (1, .int 1), (2, .int 20)], [], 0, 0)) rfl ?_
              refine Ex.icmp rfl (cF_gt h2) rfl ?_
              refine Ex.steps 2 (S' := (15, [.int 1], [(0, .int x1), (1, .int 1), (2, .int 20)], [], 0, 0)) rfl ?_
              exact Ex.ret rfl rfl) ?_
            refine Ex.steps 4 (S' := (14, [.int 50, .int 1, .int x2], [(0, .ref 0), (1, .int x1), (2, .int x2)], hX, 0, 0)) rfl ?_
            refine Ex.call0 (as := [.int x2, .int 1, .int 50]) (rest := []) (r := (some (.int 1))) (c1 := 0) (s1 := 0) rfl rfl rfl rfl (by
              refine Rn.of (me := me12) rfl ⟨Nat.le_of_ble_eq_true rfl, rfl⟩ rfl ?_
              refine Ex.steps 2 (S' := (2, [.int 1, .int x2], [(0, .int x2), (1, .int 1), (2, .int 50)], [], 0, 0)) rfl ?_
              refine Ex.icmp rfl (cF_lt h3) rfl ?_
              refine Ex.steps 2 (S' := (7, [.int 50, .int x2], [(0, .int x2), (1, .int 1), (2, .int 50)], [], 0, 0)) rfl ?_
              refine Ex.icmp rfl (cF_gt h4) rfl ?_
              refine Ex.steps 2 (S' := (15, [.int 1], [(0, .int x2), (1, .int 1), (2, .int 50)], [], 0, 0)) rfl ?_
              exact Ex.ret rfl rfl) ?_
            refine Ex.steps 10 (S' := (40, [.int 1], [(0, .ref 0), (1, .int x1), (2, .int x2)], ((hX.set 1 (.inl (1, [.int 3, .ref 2, .ref 13, .ref 19, .ref 20, .int x1, .int 5, .ref 21, .int 100, .int 0, .ref 26, .ref 27, .ref 28, .ref 32, .int 0, .ref 38, .ref 39, .ref 40]))).set 1 (.inl (1, [.int 3, .ref 2, .ref 13, .ref 19, .ref 20, .int x1, .int x2, .ref 21, .int 100, .int 0, .ref 26, .ref 27, .ref 28, .ref 32, .int 0, .ref 38, .ref 39, .ref 40]))), 0, 0)) rfl ?_
            exact Ex.ret rfl rfl) (by
            refine Rn.of (me := me153) rfl ⟨Nat.le_of_ble_eq_true rfl, rfl⟩ rfl ?_
            refine Ex.steps 3 (S' := (4, [.int 20, .int 1, .int x1], [(0, .ref 0), (1, .int x1), (2, .int x2)], hM, 0, 0)) rfl ?_
            refine Ex.call0 (as := [.int x1, .int 1, .int 20]) (rest := []) (r := (some (.int 1))) (c1 := 0) (s1 := 0) rfl rfl rfl rfl (by
              refine Rn.of (me := me145) rfl ⟨Nat.le_of_ble_eq_true rfl, rfl⟩ rfl ?_
              refine Ex.steps 2 (S' := (2, [.int 1, .int x1], [(0, .int x1), (1, .int 1), (2, .int 20)], [], 0, 0)) rfl ?_
              refine Ex.icmp rfl (cF_lt h1) rfl ?_
              refine Ex.steps 2 (S' := (7, [.int 20, .int x1], [(0, .int x1), (1, .int 1), (2, .int 20)], [], 0, 0)) rfl ?_
              refine Ex.icmp rfl (cF_gt h2) rfl ?_
              refine Ex.steps 2 (S' := (15, [.int 1], [(0, .int x1), (1, .int 1), (2, .int 20)], [], 0, 0)) rfl ?_
              exact Ex.ret rfl rfl) ?_
            refine Ex.steps 4 (S' := (14, [.int 50, .int 1, .int x2], [(0, .ref 0), (1, .int x1), (2, .int x2)], hM, 0, 0)) rfl ?_
            refine Ex.call0 (as := [.int x2, .int 1, .int 50]) (rest := []) (r := (some (.int 1))) (c1 := 0) (s1 := 0) rfl rfl rfl rfl (by
              refine Rn.of (me := me145) rfl ⟨Nat.le_of_ble_eq_true rfl, rfl⟩ rfl ?_
              refine Ex.steps 2 (S' := (2, [.int 1, .int x2], [(0, .int x2), (1, .int 1), (2, .int 50)], [], 0, 0)) rfl ?_
              refine Ex.icmp rfl (cF_lt h3) rfl ?_
              refine Ex.steps 2 (S' := (7, [.int 50, .int x2], [(0, .int x2), (1, .int 1), (2, .int 50)], [], 0, 0)) rfl ?_
              refine Ex.icmp rfl (cF_gt h4) rfl ?_
              refine Ex.steps 2 (S' := (15, [.int 1], [(0, .int x2), (1, .int 1), (2, .int 50)], [], 0, 0)) rfl ?_
              exact Ex.ret rfl rfl) ?_
            refine Ex.steps 12 (S' := (40, [.int 1], [(0, .ref 0), (1, .int x1), (2, .int x2)], ((hM.set 1 (.inr (0, .inl ([3, 0, 0, 0, 0, 0, 0, 0, 3, 5, 0, 0, 0, 0, 0, 0, 0, 100, 0, 0, (-1), 0, 0, 0, 0, 0, 0, 0, 0, 0, 0, 0, 0, 0, 0, 0, 0, 0, 0, 0, 0, 0, 1, 0, 0, 0, 0, 0, 0, 0, 0, 0, 0, 0, 0, 0, 0, 0, 0, 0, 0, 0, 0, 0, 0, 0, 0, 0, 0, 0, 0, 0, 0, 0, 0, 0, 0, 0, 0, 0, 0, 0, 1, 0, 0, 0, 0, 0, 0, 0, 0, 0, 0, 0, 0, 0, 0, 0, 0, 0, 0, 0, 0, 0, 0, 0, 0, 0, 0, 0, 0, 0, 0, 0, 0, 0, 0, 0, 0, 0, 0, 0, 1, 0, 0, 0, 0, 0, 0, 0, 0, 0, 0, 0, 0, 0, 0, 0, 0, 0, 0, 0, 0, 0, 0, 0, 0, 0, 0, 0, 0, 0, 0, 0, 0, 0, 0, 0, 0, 0, 0, 0, 1, 0, 0, 0, 0, 0, 0, 0, 0, 0, 0, 0, 0, 0, 0, 0, 0, 0, 0, 0, 0, 0, 0, 0, 0, 0, 0, 0, 0, 0, 0, 0, 0, 0, 0, 0, 0, 0, 0, 0, 0, 0, 0, 0, 0, 0, 0, 0, 0, 0, 0, 0, 0, 0, 0, 0, 0, 0, 0, 0, 0, 0, 0, 0, 0, 0, 0, 0, 0, 0, 0, 0, 0, 0, 0, 0, 0, 0, 0, 0, 0, 0, 0, 0, 0, 0, 0, 0, 0, 0, 0, 0, 0, 0, 0, 0, 0, 0, 0, 0, 0, 0, 0, 0, 0, 0, 0, 0, 0, 0, 0, 0, 0, 0, 0, 0, 0, 0, 0, 0, 0, 0, 0, 0, 0, 0, 0, 0, 0, 0, 0, 0, 0, 0, 0, 0, 0, 0, 0, 0, 0, 0, 0, 0, 0, 0, 0, 0, 0, 0, 0, 0, 0, 0, 0, 0, 0, 0, 0, 0, 0, 0, 0, 0, 0, 0, 0, 0, 0, 0, 0, 0, 0, 0, 0, 0, 0, 0, 0, 0, 0, 0, 0, 0, 0, 0, 0, 0, 0, 0, 0, 0, 0, 0, 0, 0, 0, 0, 0, 0, 0, 0, 0, 0, 0, 0, 0, 0, 0, 0, 0, 0, 0, 0, 0, 0, 0, 0, 0, 0, 0, 0, 0, 0, 0, 0, 0, 0, 0, 0, 0, 0, 0, 0, 0, 0, 0, 0, 0, 0, 0, 0, 0, 0, 0, 0, 0, 0, 0, 0, 0, 0, 0, 0, 0, 0, 0, 0, 0, 0, 0, 0, 0, 0, 0, 0, 0, 0, 0, 0, 0, 0, 0, 0, 0, 0, 0, 0, 0, 0, 0, 0, 0, 0, 0, 0, 0, 0, 0, 0, 0, 0, 0, 0, 0, 0, 0, 0, 0, 0, 0, 0, 0, 0, 0, 0, 0, 0, 0, 0, 0, 0, 0, 0, 0, 0, 0, 0, 0, 0, 0, 0, 0, 0, 0, 0, 0, 0, 0, 0, 0, 0, 0, 0, 0, 0, 0, 0, 0, 0, 0, 0, 0, 0, 0, 0, 0, 0, 0, 0, 0, 0, 0, 0, 0, 0, 0, 0, 0, 0, 0, 0, 0, 0, 0, 0, 0, 0, 0, 0, 0, 0, 0, 0, 0, 0, 0, 0, 0, 0, 0, 0, 0, 0, 0, 0, 0, 0, 0, 0, 0, 0, 0, 0, 0, 0, 0, 0, 0, 0, 0, 0, 0, 0, 0, 0, 0, 0, 0, 0, 0, 0, 0, 0, 0, 0, 0, 0, 0, 0, 0, 0, 0, 0, 0, 0, 0, 0, 0, 0, 0, 0, 0, 0, 0, 0, 0, 0, 0, 0, 0, 0, 0, 0, 0, 0, 0, 0, 0, 0, 0, 0, 0, 0, 0, 0, 0, 0, 0, 0, 0, 0, 0, 0, 0, 0, 0, 0, 0, 0, 0, 0, 0, 0, 0, 0, 0, 0, 0, 0, 0, 0, 0, 0, 0, 0, 0, 0, 0, 0, 0, 0, 0, 0, 0, 0, 0, 0, 0, 0, 0, 0, 0, 0, 0, 0, 0, 0, 0, 0, 0, 0, 0, 0, 0, 0, 0, 0, 0, 0, 0, 0, 0, 0, 0, 0, 0, 0, 0, 0, 0, 0, 0, 0, 0, 0, 0, 0, 0, 0, 0, 0, 0, 0, 0, 0, 0, 0, 0, 0, 0, 0, 0, 0, 0, 0, 0, 0, 0, 0, 0, 0, 0, 0, 0, 0, 0, 0, 0, 0, 0, 0, 0, 0, 0, 0, 0, 0, 0, 0, 0, 0, 0, 0, 0, 0, 0, 0, 0, 0, 0, 0, 0, 0, 0, 0, 0, 0, 0, 0, 0, 0, 0, 0, 0, 0, 0, 0, 0, 0, 0, 0, 0, 0, 0, 0, 0, 0, 0, 0, 0, 0, (-100), 100, (-100), 100, (-100), 100, (-100), 100, 0, 0, 0, 0, 0, 0, 0, 0, 0, 0, 0, 0, 0, 0, 0, 0, 0, 0, 0, 0, 0, 0, 0, 0, 0, 0, 0, 0, 0, 0, 0, 0, 0, 0, 0, 0, 0, 0, 0, 0, 0, 0, 0, 0, 0, 0, 0, 0, 0, 0, 0, 0, 0, 0, 0, 0, 0, 0, 0, 0, 0, 0, 0, 0, 0, 0, 0, 0, 0, 0, 0, 0, 0, 0, 0, 0, 0, 0, 0, 0, 0, 0, 0, 0, 0, 0, 0, 0, 0, 0, 0, 0, 0, 0, 0, 0, 0, 0, 0, 0, 0, 0, 0, 0, 0, 0, 0, 0, 0, 0, 0, 0, 0, 0, 0, 0, 0, 0].set 8 x1)))).set 1 (.inr (0, .inl (([3, 0, 0, 0, 0, 0, 0, 0, 3, 5, 0, 0, 0, 0, 0, 0, 0, 100, 0, 0, (-1), 0, 0, 0, 0, 0, 0, 0, 0, 0, 0, 0, 0, 0, 0, 0, 0, 0, 0, 0, 0, 0, 1, 0, 0, 0, 0, 0, 0, 0, 0, 0, 0, 0, 0, 0, 0, 0, 0, 0, 0, 0, 0, 0, 0, 0, 0, 0, 0, 0, 0, 0, 0, 0, 0, 0, 0, 0, 0, 0, 0, 0, 1, 0, 0, 0, 0, 0, 0, 0, 0, 0, 0, 0, 0, 0, 0, 0, 0, 0, 0, 0, 0, 0, 0, 0, 0, 0, 0, 0, 0, 0, 0, 0, 0, 0, 0, 0, 0, 0, 0, 0, 1, 0, 0, 0, 0, 0, 0, 0, 0, 0, 0, 0, 0, 0, 0, 0, 0, 0, 0, 0, 0, 0, 0, 0, 0, 0, 0, 0, 0, 0, 0, 0, 0, 0, 0, 0, 0, 0, 0, 0, 1, 0, 0, 0, 0, 0, 0, 0, 0, 0, 0, 0, 0, 0, 0, 0, 0, 0, 0, 0, 0, 0, 0, 0, 0, 0, 0, 0, 0, 0, 0, 0, 0, 0, 0, 0, 0, 0, 0, 0, 0, 0, 0, 0, 0, 0, 0, 0, 0, 0, 0, 0, 0, 0, 0, 0, 0, 0, 0, 0, 0, 0, 0, 0, 0, 0, 0, 0, 0, 0, 0, 0, 0, 0, 0, 0, 0, 0, 0, 0, 0, 0, 0, 0, 0, 0, 0, 0, 0, 0, 0, 0, 0, 0, 0, 0, 0, 0, 0, 0, 0, 0, 0, 0, 0, 0, 0, 0, 0, 0, 0, 0, 0, 0, 0, 0, 0, 0, 0, 0, 0, 0, 0, 0, 0, 0, 0, 0, 0, 0, 0, 0, 0, 0, 0, 0, 0, 0, 0, 0, 0, 0, 0, 0, 0, 0, 0, 0, 0, 0, 0, 0, 0, 0, 0, 0, 0, 0, 0, 0, 0, 0, 0, 0, 0, 0, 0, 0, 0, 0, 0, 0, 0, 0, 0, 0, 0, 0, 0, 0, 0, 0, 0, 0, 0, 0, 0, 0, 0, 0, 0, 0, 0, 0, 0, 0, 0, 0, 0, 0, 0, 0, 0, 0, 0, 0, 0, 0, 0, 0, 0, 0, 0, 0, 0, 0, 0, 0, 0, 0, 0, 0, 0, 0, 0, 0, 0, 0, 0, 0, 0, 0, 0, 0, 0, 0, 0, 0, 0, 0, 0, 0, 0, 0, 0, 0, 0, 0, 0, 0, 0, 0, 0, 0, 0, 0, 0, 0, 0, 0, 0, 0, 0, 0, 0, 0, 0, 0, 0, 0, 0, 0, 0, 0, 0, 0, 0, 0, 0, 0, 0, 0, 0, 0, 0, 0, 0, 0, 0, 0, 0, 0, 0, 0, 0, 0, 0, 0, 0, 0, 0, 0, 0, 0, 0, 0, 0, 0, 0, 0, 0, 0, 0, 0, 0, 0, 0, 0, 0, 0, 0, 0, 0, 0, 0, 0, 0, 0, 0, 0, 0, 0, 0, 0, 0, 0, 0, 0, 0, 0, 0, 0, 0, 0, 0, 0, 0, 0, 0, 0, 0, 0, 0, 0, 0, 0, 0, 0, 0, 0, 0, 0, 0, 0, 0, 0, 0, 0, 0, 0, 0, 0, 0, 0, 0, 0, 0, 0, 0, 0, 0, 0, 0, 0, 0, 0, 0, 0, 0, 0, 0, 0, 0, 0, 0, 0, 0, 0, 0, 0, 0, 0, 0, 0, 0, 0, 0, 0, 0, 0, 0, 0, 0, 0, 0, 0, 0, 0, 0, 0, 0, 0, 0, 0, 0, 0, 0, 0, 0, 0, 0, 0, 0, 0, 0, 0, 0, 0, 0, 0, 0, 0, 0, 0, 0, 0, 0, 0, 0, 0, 0, 0, 0, 0, 0, 0, 0, 0, 0, 0, 0, 0, 0, 0, 0, 0, 0, 0, 0, 0, 0, 0, 0, 0, 0, 0, 0, 0, 0, 0, 0, 0, 0, 0, 0, 0, 0, 0, 0, 0, 0, 0, 0, 0, 0, 0, 0, 0, 0, 0, 0, 0, 0, 0, 0, 0, 0, 0, 0, 0, 0, 0, 0, 0, 0, 0, 0, 0, 0, 0, 0, 0, 0, 0, 0, 0, 0, 0, 0, 0, 0, 0, 0, 0, 0, 0, 0, 0, 0, 0, 0, 0, 0, 0, 0, 0, 0, 0, 0, 0, 0, 0, 0, 0, 0, 0, 0, 0, 0, 0, 0, 0, 0, 0, 0, 0, 0, 0, 0, 0, 0, 0, 0, 0, 0, 0, 0, 0, 0, 0, 0, 0, 0, 0, 0, 0, 0, 0, 0, 0, 0, 0, 0, 0, 0, 0, 0, 0, 0, 0, 0, 0, 0, 0, 0, 0, 0, 0, 0, 0, 0, 0, 0, 0, 0, 0, 0, 0, 0, 0, 0, 0, (-100), 100, (-100), 100, (-100), 100, (-100), 100, 0, 0, 0, 0, 0, 0, 0, 0, 0, 0, 0, 0, 0, 0, 0, 0, 0, 0, 0, 0, 0, 0, 0, 0, 0, 0, 0, 0, 0, 0, 0, 0, 0, 0, 0, 0, 0, 0, 0, 0, 0, 0, 0, 0, 0, 0, 0, 0, 0, 0, 0, 0, 0, 0, 0, 0, 0, 0, 0, 0, 0, 0, 0, 0, 0, 0, 0, 0, 0, 0, 0, 0, 0, 0, 0, 0, 0, 0, 0, 0, 0, 0, 0, 0, 0, 0, 0, 0, 0, 0, 0, 0, 0, 0, 0, 0, 0, 0, 0, 0, 0, 0, 0, 0, 0, 0, 0, 0, 0, 0, 0, 0, 0, 0, 0, 0, 0, 0].set 8 x1).set 9 x2)))), 0, 0)) rfl ?_
            exact Ex.ret rfl rfl) (by decide)
