/-! ===== both answer alike: guess, clock ===== -/
set_option maxHeartbeats 8000000 in
set_option maxRecDepth 100000 in
theorem both_guess (x1 x2 : Int32) : BothI 123 219 [.int x1, .int x2] := by
  by_cases h1 : (x1 : Int32) < 0
  ·
    exact mkI (x := (-2000000000)) (c1 := 0) (s1 := 0) (c2 := 0) (s2 := 0) (by
      refine Rn.of (me := me123) rfl ⟨Nat.le_of_ble_eq_true rfl, rfl⟩ rfl ?_
      refine Ex.steps 3 (S' := (3, [.int 1, .int 0, .int x1], [(0, .ref 0), (1, .int x1), (2, .int x2)], hX, 0, 0)) rfl ?_
      refine Ex.call0 (as := [.int x1, .int 0, .int 1]) (rest := []) (r := (some (.int 0))) (c1 := 0) (s1 := 0) rfl rfl rfl rfl (by
        refine Rn.of (me := me12) rfl ⟨Nat.le_of_ble_eq_true rfl, rfl⟩ rfl ?_
        refine Ex.steps 2 (S' := (2, [.int 0, .int x1], [(0, .int x1), (1, .int 0), (2, .int 1)], [], 0, 0)) rfl ?_
        refine Ex.icmp rfl (cT_lt h1) rfl ?_
        refine Ex.steps 1 (S' := (15, [.int 0], [(0, .int x1), (1, .int 0), (2, .int 1)], [], 0, 0)) rfl ?_
        exact Ex.ret rfl rfl) ?_
      refine Ex.steps 0 (S' := (6, [.int 0], [(0, .ref 0), (1, .int x1), (2, .int x2)], hX, 0, 0)) rfl ?_
      refine Ex.steps 1 (S' := (18, [], [(0, .ref 0), (1, .int x1), (2, .int x2)], hX, 0, 0)) rfl ?_
      refine Ex.steps 1 (S' := (20, [.int (-2000000000)], [(0, .ref 0), (1, .int x1), (2, .int x2)], hX, 0, 0)) rfl ?_
      exact Ex.ret rfl rfl) (by
      refine Rn.of (me := me219) rfl ⟨Nat.le_of_ble_eq_true rfl, rfl⟩ rfl ?_
      refine Ex.steps 3 (S' := (3, [.int 1, .int 0, .int x1], [(0, .ref 0), (1, .int x1), (2, .int x2)], hM, 0, 0)) rfl ?_
      refine Ex.call0 (as := [.int x1, .int 0, .int 1]) (rest := []) (r := (some (.int 0))) (c1 := 0) (s1 := 0) rfl rfl rfl rfl (by
        refine Rn.of (me := me145) rfl ⟨Nat.le_of_ble_eq_true rfl, rfl⟩ rfl ?_
        refine Ex.steps 2 (S' := (2, [.int 0, .int x1], [(0, .int x1), (1, .int 0), (2, .int 1)], [], 0, 0)) rfl ?_
        refine Ex.icmp rfl (cT_lt h1) rfl ?_
        refine Ex.steps 1 (S' := (15, [.int 0], [(0, .int x1), (1, .int 0), (2, .int 1)], [], 0, 0)) rfl ?_
        exact Ex.ret rfl rfl) ?_
      refine Ex.steps 0 (S' := (6, [.int 0], [(0, .ref 0), (1, .int x1), (2, .int x2)], hM, 0, 0)) rfl ?_
      refine Ex.steps 1 (S' := (18, [], [(0, .ref 0), (1, .int x1), (2, .int x2)], hM, 0, 0)) rfl ?_
      refine Ex.steps 1 (S' := (20, [.int (-2000000000)], [(0, .ref 0), (1, .int x1), (2, .int x2)], hM, 0, 0)) rfl ?_
      exact Ex.ret rfl rfl) (by decide)
  ·
    by_cases h2 : (1 : Int32) < x1
    ·
      exact mkI (x := (-2000000000)) (c1 := 0) (s1 := 0) (c2 := 0) (s2 := 0) (by
        refine Rn.of (me := me123) rfl ⟨Nat.le_of_ble_eq_true rfl, rfl⟩ rfl ?_
        refine Ex.steps 3 (S' := (3, [.int 1, .int 0, .int x1], [(0, .ref 0), (1, .int x1), (2, .int x2)], hX, 0, 0)) rfl ?_
        refine Ex.call0 (as := [.int x1, .int 0, .int 1]) (rest := []) (r := (some (.int 0))) (c1 := 0) (s1 := 0) rfl rfl rfl rfl (by
          refine Rn.of (me := me12) rfl ⟨Nat.le_of_ble_eq_true rfl, rfl⟩ rfl ?_
          refine Ex.steps 2 (S' := (2, [.int 0, .int x1], [(0, .int x1), (1, .int 0), (2, .int 1)], [], 0, 0)) rfl ?_
          refine Ex.icmp rfl (cF_lt h1) rfl ?_
          refine Ex.steps 2 (S' := (7, [.int 1, .int x1], [(0, .int x1), (1, .int 0), (2, .int 1)], [], 0, 0)) rfl ?_
          refine Ex.icmp rfl (cT_gt h2) rfl ?_
          refine Ex.steps 1 (S' := (15, [.int 0], [(0, .int x1), (1, .int 0), (2, .int 1)], [], 0, 0)) rfl ?_
          exact Ex.ret rfl rfl) ?_
        refine Ex.steps 0 (S' := (6, [.int 0], [(0, .ref 0), (1, .int x1), (2, .int x2)], hX, 0, 0)) rfl ?_
        refine Ex.steps 1 (S' := (18, [], [(0, .ref 0), (1, .int x1), (2, .int x2)], hX, 0, 0)) rfl ?_
        refine Ex.steps 1 (S' := (20, [.int (-2000000000)], [(0, .ref 0), (1, .int x1), (2, .int x2)], hX, 0, 0)) rfl ?_
        exact Ex.ret rfl rfl) (by
        refine Rn.of (me := me219) rfl ⟨Nat.le_of_ble_eq_true rfl, rfl⟩ rfl ?_
        refine Ex.steps 3 (S' := (3, [.int 1, .int 0, .int x1], [(0, .ref 0), (1, .int x1), (2, .int x2)], hM, 0, 0)) rfl ?_
        refine Ex.call0 (as := [.int x1, .int 0, .int 1]) (rest := []) (r := (some (.int 0))) (c1 := 0) (s1 := 0) rfl rfl rfl rfl (by
          refine Rn.of (me := me145) rfl ⟨Nat.le_of_ble_eq_true rfl, rfl⟩ rfl ?_
          refine Ex.steps 2 (S' := (2, [.int 0, .int x1], [(0, .int x1), (1, .int 0), (2, .int 1)], [], 0, 0)) rfl ?_
          refine Ex.icmp rfl (cF_lt h1) rfl ?_
          refine Ex.steps 2 (S' := (7, [.int 1, .int x1], [(0, .int x1), (1, .int 0), (2, .int 1)], [], 0, 0)) rfl ?_
          refine Ex.icmp rfl (cT_gt h2) rfl ?_
          refine Ex.steps 1 (S' := (15, [.int 0], [(0, .int x1), (1, .int 0), (2, .int 1)], [], 0, 0)) rfl ?_
          exact Ex.ret rfl rfl) ?_
        refine Ex.steps 0 (S' := (6, [.int 0], [(0, .ref 0), (1, .int x1), (2, .int x2)], hM, 0, 0)) rfl ?_
        refine Ex.steps 1 (S' := (18, [], [(0, .ref 0), (1, .int x1), (2, .int x2)], hM, 0, 0)) rfl ?_
        refine Ex.steps 1 (S' := (20, [.int (-2000000000)], [(0, .ref 0), (1, .int x1), (2, .int x2)], hM, 0, 0)) rfl ?_
        exact Ex.ret rfl rfl) (by decide)
    ·
      by_cases h3 : (x2 : Int32) < 0
      ·
        exact mkI (x := (-2000000000)) (c1 := 0) (s1 := 0) (c2 := 0) (s2 := 0) (by
          refine Rn.of (me := me123) rfl ⟨Nat.le_of_ble_eq_true rfl, rfl⟩ rfl ?_
          refine Ex.steps 3 (S' := (3, [.int 1, .int 0, .int x1], [(0, .ref 0), (1, .int x1), (2, .int x2)], hX, 0, 0)) rfl ?_
          refine Ex.call0 (as := [.int x1, .int 0, .int 1]) (rest := []) (r := (some (.int 1))) (c1 := 0) (s1 := 0) rfl rfl rfl rfl (by
            refine Rn.of (me := me12) rfl ⟨Nat.le_of_ble_eq_true rfl, rfl⟩ rfl ?_
            refine Ex.steps 2 (S' := (2, [.int 0, .int x1], [(0, .int x1), (1, .int 0), (2, .int 1)], [], 0, 0)) rfl ?_
            refine Ex.icmp rfl (cF_lt h1) rfl ?_
            refine Ex.steps 2 (S' := (7, [.int 1, .int x1], [(0, .int x1), (1, .int 0), (2, .int 1)], [], 0, 0)) rfl ?_
            refine Ex.icmp rfl (cF_gt h2) rfl ?_
            refine Ex.steps 2 (S' := (15, [.int 1], [(0, .int x1), (1, .int 0), (2, .int 1)], [], 0, 0)) rfl ?_
            exact Ex.ret rfl rfl) ?_
          refine Ex.steps 0 (S' := (6, [.int 1], [(0, .ref 0), (1, .int x1), (2, .int x2)], hX, 0, 0)) rfl ?_
          refine Ex.steps 1 (S' := (9, [], [(0, .ref 0), (1, .int x1), (2, .int x2)], hX, 0, 0)) rfl ?_
          refine Ex.steps 3 (S' := (12, [.int 2, .int 0, .int x2], [(0, .ref 0), (1, .int x1), (2, .int x2)], hX, 0, 0)) rfl ?_
          refine Ex.call0 (as := [.int x2, .int 0, .int 2]) (rest := []) (r := (some (.int 0))) (c1 := 0) (s1 := 0) rfl rfl rfl rfl (by
            refine Rn.of (me := me12) rfl ⟨Nat.le_of_ble_eq_true rfl, rfl⟩ rfl ?_
            refine Ex.steps 2 (S' := (2, [.int 0, .int x2], [(0, .int x2), (1, .int 0), (2, .int 2)], [], 0, 0)) rfl ?_
            refine Ex.icmp rfl (cT_lt h3) rfl ?_
            refine Ex.steps 1 (S' := (15, [.int 0], [(0, .int x2), (1, .int 0), (2, .int 2)], [], 0, 0)) rfl ?_
            exact Ex.ret rfl rfl) ?_
          refine Ex.steps 0 (S' := (15, [.int 0], [(0, .ref 0), (1, .int x1), (2, .int x2)], hX, 0, 0)) rfl ?_
          refine Ex.steps 1 (S' := (18, [], [(0, .ref 0), (1, .int x1), (2, .int x2)], hX, 0, 0)) rfl ?_
          refine Ex.steps 1 (S' := (20, [.int (-2000000000)], [(0, .ref 0), (1, .int x1), (2, .int x2)], hX, 0, 0)) rfl ?_
          exact Ex.ret rfl rfl) (by
          refine Rn.of (me := me219) rfl ⟨Nat.le_of_ble_eq_true rfl, rfl⟩ rfl ?_
          refine Ex.steps 3 (S' := (3, [.int 1, .int 0, .int x1], [(0, .ref 0), (1, .int x1), (2, .int x2)], hM, 0, 0)) rfl ?_
          refine Ex.call0 (as := [.int x1, .int 0, .int 1]) (rest := []) (r := (some (.int 1))) (c1 := 0) (s1 := 0) rfl rfl rfl rfl (by
            refine Rn.of (me := me145) rfl ⟨Nat.le_of_ble_eq_true rfl, rfl⟩ rfl ?_
            refine Ex.steps 2 (S' := (2, [.int 0, .int x1], [(0, .int x1), (1, .int 0), (2, .int 1)], [], 0, 0)) rfl ?_
            refine Ex.icmp rfl (cF_lt h1) rfl ?_
            refine Ex.steps 2 (S' := (7, [.int 1, .int x1], [(0, .int x1), (1, .int 0), (2, .int 1)], [], 0, 0)) rfl ?_
            refine Ex.icmp rfl (cF_gt h2) rfl ?_
            refine Ex.steps 2 (S' := (15, [.int 1], [(0, .int x1), (1, .int 0), (2, .int 1)], [], 0, 0)) rfl ?_
            exact Ex.ret rfl rfl) ?_
          refine Ex.steps 0 (S' := (6, [.int 1], [(0, .ref 0), (1, .int x1), (2, .int x2)], hM, 0, 0)) rfl ?_
          refine Ex.steps 1 (S' := (9, [], [(0, .ref 0), (1, .int x1), (2, .int x2)], hM, 0, 0)) rfl ?_
          refine Ex.steps 3 (S' := (12, [.int 2, .int 0, .int x2], [(0, .ref 0), (1, .int x1), (2, .int x2)], hM, 0, 0)) rfl ?_
          refine Ex.call0 (as := [.int x2, .int 0, .int 2]) (rest := []) (r := (some (.int 0))) (c1 := 0) (s1 := 0) rfl rfl rfl rfl (by
            refine Rn.of (me := me145) rfl ⟨Nat.le_of_ble_eq_true rfl, rfl⟩ rfl ?_
            refine Ex.steps 2 (S' := (2, [.int 0, .int x2], [(0, .int x2), (1, .int 0), (2, .int 2)], [], 0, 0)) rfl ?_
            refine Ex.icmp rfl (cT_lt h3) rfl ?_
            refine Ex.steps 1 (S' := (15, [.int 0], [(0, .int x2), (1, .int 0), (2, .int 2)], [], 0, 0)) rfl ?_
            exact Ex.ret rfl rfl) ?_
          refine Ex.steps 0 (S' := (15, [.int 0], [(0, .ref 0), (1, .int x1), (2, .int x2)], hM, 0, 0)) rfl ?_
          refine Ex.steps 1 (S' := (18, [], [(0, .ref 0), (1, .int x1), (2, .int x2)], hM, 0, 0)) rfl ?_
          refine Ex.steps 1 (S' := (20, [.int (-2000000000)], [(0, .ref 0), (1, .int x1), (2, .int x2)], hM, 0, 0)) rfl ?_
          exact Ex.ret rfl rfl) (by decide)
      ·
        by_cases h4 : (2 : Int32) < x2
        ·
          exact mkI (x := (-2000000000)) (c1 := 0) (s1 := 0) (c2 := 0) (s2 := 0) (by
            refine Rn.of (me := me123) rfl ⟨Nat.le_of_ble_eq_true rfl, rfl⟩ rfl ?_
            refine Ex.steps 3 (S' := (3, [.int 1, .int 0, .int x1], [(0, .ref 0), (1, .int x1), (2, .int x2)], hX, 0, 0)) rfl ?_
            refine Ex.call0 (as := [.int x1, .int 0, .int 1]) (rest := []) (r := (some (.int 1))) (c1 := 0) (s1 := 0) rfl rfl rfl rfl (by
              refine Rn.of (me := me12) rfl ⟨Nat.le_of_ble_eq_true rfl, rfl⟩ rfl ?_
              refine Ex.steps 2 (S' := (2, [.int 0, .int x1], [(0, .int x1), (1, .int 0), (2, .int 1)], [], 0, 0)) rfl ?_
              refine Ex.icmp rfl (cF_lt h1) rfl ?_
              refine Ex.steps 2 (S' := (7, [.int 1, .int x1], [(0, .int x1), (1, .int 0), (2, .int 1)], [], 0, 0)) rfl ?_
              refine Ex.icmp rfl (cF_gt h2) rfl ?_
              refine Ex.steps 2 (S' := (15, [.int 1], [(0, .int x1), (1, .int 0), (2, .int 1)], [], 0, 0)) rfl ?_
              exact Ex.ret rfl rfl) ?_
            refine Ex.steps 0 (S' := (6, [.int 1], [(0, .ref 0), (1, .int x1), (2, .int x2)], hX, 0, 0)) rfl ?_
            refine Ex.steps 1 (S' := (9, [], [(0, .ref 0), (1, .int x1), (2, .int x2)], hX, 0, 0)) rfl ?_
            refine Ex.steps 3 (S' := (12, [.int 2, .int 0, .int x2], [(0, .ref 0), (1, .int x1), (2, .int x2)], hX, 0, 0)) rfl ?_
            refine Ex.call0 (as := [.int x2, .int 0, .int 2]) (rest := []) (r := (some (.int 0))) (c1 := 0) (s1 := 0) rfl rfl rfl rfl (by
              refine Rn.of (me := me12) rfl ⟨Nat.le_of_ble_eq_true rfl, rfl⟩ rfl ?_
              refine Ex.steps 2 (S' := (2, [.int 0, .int x2], [(0, .int x2), (1, .int 0), (2, .int 2)], [], 0, 0)) rfl ?_
              refine Ex.icmp rfl (cF_lt h3) rfl ?_
              refine Ex.steps 2 (S' := (7, [.int 2, .int x2], [(0, .int x2), (1, .int 0), (2, .int 2)], [], 0, 0)) rfl ?_
              refine Ex.icmp rfl (cT_gt h4) rfl ?_
              refine Ex.steps 1 (S' := (15, [.int 0], [(0, .int x2), (1, .int 0), (2, .int 2)], [], 0, 0)) rfl ?_
              exact Ex.ret rfl rfl) ?_
            refine Ex.steps 0 (S' := (15, [.int 0], [(0, .ref 0), (1, .int x1), (2, .int x2)], hX, 0, 0)) rfl ?_
            refine Ex.steps 1 (S' := (18, [], [(0, .ref 0), (1, .int x1), (2, .int x2)], hX, 0, 0)) rfl ?_
            refine Ex.steps 1 (S' := (20, [.int (-2000000000)], [(0, .ref 0), (1, .int x1), (2, .int x2)], hX, 0, 0)) rfl ?_
            exact Ex.ret rfl rfl) (by
            refine Rn.of (me := me219) rfl ⟨Nat.le_of_ble_eq_true rfl, rfl⟩ rfl ?_
            refine Ex.steps 3 (S' := (3, [.int 1, .int 0, .int x1], [(0, .ref 0), (1, .int x1), (2, .int x2)], hM, 0, 0)) rfl ?_
            refine Ex.call0 (as := [.int x1, .int 0, .int 1]) (rest := []) (r := (some (.int 1))) (c1 := 0) (s1 := 0) rfl rfl rfl rfl (by
              refine Rn.of (me := me145) rfl ⟨Nat.le_of_ble_eq_true rfl, rfl⟩ rfl ?_
              refine Ex.steps 2 (S' := (2, [.int 0, .int x1], [(0, .int x1), (1, .int 0), (2, .int 1)], [], 0, 0)) rfl ?_
              refine Ex.icmp rfl (cF_lt h1) rfl ?_
              refine Ex.steps 2 (S' := (7, [.int 1, .int x1], [(0, .int x1), (1, .int 0), (2, .int 1)], [], 0, 0)) rfl ?_
              refine Ex.icmp rfl (cF_gt h2) rfl ?_
              refine Ex.steps 2 (S' := (15, [.int 1], [(0, .int x1), (1, .int 0), (2, .int 1)], [], 0, 0)) rfl ?_
              exact Ex.ret rfl rfl) ?_
            refine Ex.steps 0 (S' := (6, [.int 1], [(0, .ref 0), (1, .int x1), (2, .int x2)], hM, 0, 0)) rfl ?_
            refine Ex.steps 1 (S' := (9, [], [(0, .ref 0), (1, .int x1), (2, .int x2)], hM, 0, 0)) rfl ?_
            refine Ex.steps 3 (S' := (12, [.int 2, .int 0, .int x2], [(0, .ref 0), (1, .int x1), (2, .int x2)], hM, 0, 0)) rfl ?_
            refine Ex.call0 (as := [.int x2, .int 0, .int 2]) (rest := []) (r := (some (.int 0))) (c1 := 0) (s1 := 0) rfl rfl rfl rfl (by
              refine Rn.of (me := me145) rfl ⟨Nat.le_of_ble_eq_true rfl, rfl⟩ rfl ?_
              refine Ex.steps 2 (S' := (2, [.int 0, .int x2], [(0, .int x2), (1, .int 0), (2, .int 2)], [], 0, 0)) rfl ?_
              refine Ex.icmp rfl (cF_lt h3) rfl ?_
              refine Ex.steps 2 (S' := (7, [.int 2, .int x2], [(0, .int x2), (1, .int 0), (2, .int 2)], [], 0, 0)) rfl ?_
              refine Ex.icmp rfl (cT_gt h4) rfl ?_
              refine Ex.steps 1 (S' := (15, [.int 0], [(0, .int x2), (1, .int 0), (2, .int 2)], [], 0, 0)) rfl ?_
              exact Ex.ret rfl rfl) ?_
            refine Ex.steps 0 (S' := (15, [.int 0], [(0, .ref 0), (1, .int x1), (2, .int x2)], hM, 0, 0)) rfl ?_
            refine Ex.steps 1 (S' := (18, [], [(0, .ref 0), (1, .int x1), (2, .int x2)], hM, 0, 0)) rfl ?_
            refine Ex.steps 1 (S' := (20, [.int (-2000000000)], [(0, .ref 0), (1, .int x1), (2, .int x2)], hM, 0, 0)) rfl ?_
            exact Ex.ret rfl rfl) (by decide)
        ·
          exact mkI (x := (-2100000000)) (c1 := 0) (s1 := 0) (c2 := 0) (s2 := 0) (by
            refine Rn.of (me := me123) rfl ⟨Nat.le_of_ble_eq_true rfl, rfl⟩ rfl ?_
            refine Ex.steps 3 (S' := (3, [.int 1, .int 0, .int x1], [(0, .ref 0), (1, .int x1), (2, .int x2)], hX, 0, 0)) rfl ?_
            refine Ex.call0 (as := [.int x1, .int 0, .int 1]) (rest := []) (r := (some (.int 1))) (c1 := 0) (s1 := 0) rfl rfl rfl rfl (by
              refine Rn.of (me := me12) rfl ⟨Nat.le_of_ble_eq_true rfl, rfl⟩ rfl ?_
              refine Ex.steps 2 (S' := (2, [.int 0, .int x1], [(0, .int x1), (1, .int 0), (2, .int 1)], [], 0, 0)) rfl ?_
              refine Ex.icmp rfl (cF_lt h1) rfl ?_
              refine Ex.steps 2 (S' := (7, [.int 1, .int x1], [(0, .int x1), (1, .int 0), (2, .int 1)], [], 0, 0)) rfl ?_
              refine Ex.icmp rfl (cF_gt h2) rfl ?_
              refine Ex.steps 2 (S' := (15, [.int 1], [(0, .int x1), (1, .int 0), (2, .int 1)], [], 0, 0)) rfl ?_
              exact Ex.ret rfl rfl) ?_
            refine Ex.steps 0 (S' := (6, [.int 1], [(0, .ref 0), (1, .int x1), (2, .int x2)], hX, 0, 0)) rfl ?_
            refine Ex.steps 1 (S' := (9, [], [(0, .ref 0), (1, .int x1), (2, .int x2)], hX, 0, 0)) rfl ?_
            refine Ex.steps 3 (S' := (12, [.int 2, .int 0, .int x2], [(0, .ref 0), (1, .int x1), (2, .int x2)], hX, 0, 0)) rfl ?_
            refine Ex.call0 (as := [.int x2, .int 0, .int 2]) (rest := []) (r := (some (.int 1))) (c1 := 0) (s1 := 0) rfl rfl rfl rfl (by
              refine Rn.of (me := me12) rfl ⟨Nat.le_of_ble_eq_true rfl, rfl⟩ rfl ?_
              refine Ex.steps 2 (S' := (2, [.int 0, .int x2], [(0, .int x2), (1, .int 0), (2, .int 2)], [], 0, 0)) rfl ?_
              refine Ex.icmp rfl (cF_lt h3) rfl ?_
              refine Ex.steps 2 (S' := (7, [.int 2, .int x2], [(0, .int x2), (1, .int 0), (2, .int 2)], [], 0, 0)) rfl ?_
              refine Ex.icmp rfl (cF_gt h4) rfl ?_
              refine Ex.steps 2 (S' := (15, [.int 1], [(0, .int x2), (1, .int 0), (2, .int 2)], [], 0, 0)) rfl ?_
              exact Ex.ret rfl rfl) ?_
            refine Ex.steps 0 (S' := (15, [.int 1], [(0, .ref 0), (1, .int x1), (2, .int x2)], hX, 0, 0)) rfl ?_
            refine Ex.steps 1 (S' := (21, [], [(0, .ref 0), (1, .int x1), (2, .int x2)], hX, 0, 0)) rfl ?_
            refine Ex.steps 4 (S' := (29, [.int x1, .ref 21], [(0, .ref 0), (1, .int x1), (2, .int x2)], hX, 0, 0)) rfl ?_
            refine Ex.callS (as := [.ref 21, .int x1]) (rest := []) (I := [21, 22, 23, 24, 25]) (as' := [.ref 0, .int x1]) (h := [.inl (4, [.int 0, .ref 1, .ref 2, .ref 3, .ref 4]), .inr (0, .inl (List.replicate 6 0)), .inr (0, .inl (List.replicate 6 0)), .inr (0, .inl (List.replicate 6 0)), .inr (0, .inl (List.replicate 6 0))]) (h1 := [.inl (4, [.int 0, .ref 1, .ref 2, .ref 3, .ref 4]), .inr (0, .inl (List.replicate 6 0)), .inr (0, .inl (List.replicate 6 0)), .inr (0, .inl (List.replicate 6 0)), .inr (0, .inl (List.replicate 6 0))]) (r := (some (.int 0))) (c1 := 0) (s1 := 0) (σ2 := (((((hX.set 21 (.inl (4, [.int 0, .ref 22, .ref 23, .ref 24, .ref 25]))).set 22 (.inr (0, .inl (List.replicate 6 0)))).set 23 (.inr (0, .inl (List.replicate 6 0)))).set 24 (.inr (0, .inl (List.replicate 6 0)))).set 25 (.inr (0, .inl (List.replicate 6 0))))) rfl rfl rfl rfl rfl rfl rfl (by
              refine Rn.of (me := me124) rfl ⟨Nat.le_of_ble_eq_true rfl, rfl⟩ rfl ?_
              refine Ex.steps 7 (S' := (9, [.int 0, .int 0], [(3, .int 0), (2, .int 0), (0, .ref 0), (1, .int x1)], [.inl (4, [.int 0, .ref 1, .ref 2, .ref 3, .ref 4]), .inr (0, .inl (List.replicate 6 0)), .inr (0, .inl (List.replicate 6 0)), .inr (0, .inl (List.replicate 6 0)), .inr (0, .inl (List.replicate 6 0))], 0, 0)) rfl ?_
              refine Ex.steps 1 (S' := (34, [], [(3, .int 0), (2, .int 0), (0, .ref 0), (1, .int x1)], [.inl (4, [.int 0, .ref 1, .ref 2, .ref 3, .ref 4]), .inr (0, .inl (List.replicate 6 0)), .inr (0, .inl (List.replicate 6 0)), .inr (0, .inl (List.replicate 6 0)), .inr (0, .inl (List.replicate 6 0))], 0, 0)) rfl ?_
              refine Ex.steps 1 (S' := (35, [.int 0], [(3, .int 0), (2, .int 0), (0, .ref 0), (1, .int x1)], [.inl (4, [.int 0, .ref 1, .ref 2, .ref 3, .ref 4]), .inr (0, .inl (List.replicate 6 0)), .inr (0, .inl (List.replicate 6 0)), .inr (0, .inl (List.replicate 6 0)), .inr (0, .inl (List.replicate 6 0))], 0, 0)) rfl ?_
              exact Ex.ret rfl rfl) rfl rfl rfl ?_
            refine Ex.steps 0 (S' := (32, [.int 0], [(0, .ref 0), (1, .int x1), (2, .int x2)], (((((hX.set 21 (.inl (4, [.int 0, .ref 22, .ref 23, .ref 24, .ref 25]))).set 22 (.inr (0, .inl (List.replicate 6 0)))).set 23 (.inr (0, .inl (List.replicate 6 0)))).set 24 (.inr (0, .inl (List.replicate 6 0)))).set 25 (.inr (0, .inl (List.replicate 6 0)))), 0, 0)) rfl ?_
            refine Ex.steps 2 (S' := (34, [.int 0], [(3, .int 0), (0, .ref 0), (1, .int x1), (2, .int x2)], (((((hX.set 21 (.inl (4, [.int 0, .ref 22, .ref 23, .ref 24, .ref 25]))).set 22 (.inr (0, .inl (List.replicate 6 0)))).set 23 (.inr (0, .inl (List.replicate 6 0)))).set 24 (.inr (0, .inl (List.replicate 6 0)))).set 25 (.inr (0, .inl (List.replicate 6 0)))), 0, 0)) rfl ?_
            refine Ex.steps 1 (S' := (37, [], [(3, .int 0), (0, .ref 0), (1, .int x1), (2, .int x2)], (((((hX.set 21 (.inl (4, [.int 0, .ref 22, .ref 23, .ref 24, .ref 25]))).set 22 (.inr (0, .inl (List.replicate 6 0)))).set 23 (.inr (0, .inl (List.replicate 6 0)))).set 24 (.inr (0, .inl (List.replicate 6 0)))).set 25 (.inr (0, .inl (List.replicate 6 0)))), 0, 0)) rfl ?_
            refine Ex.steps 1 (S' := (40, [.int (-2100000000)], [(3, .int 0), (0, .ref 0), (1, .int x1), (2, .int x2)], (((((hX.set 21 (.inl (4, [.int 0, .ref 22, .ref 23, .ref 24, .ref 25]))).set 22 (.inr (0, .inl (List.replicate 6 0)))).set 23 (.inr (0, .inl (List.replicate 6 0)))).set 24 (.inr (0, .inl (List.replicate 6 0)))).set 25 (.inr (0, .inl (List.replicate 6 0)))), 0, 0)) rfl ?_
            exact Ex.ret rfl rfl) (by
            refine Rn.of (me := me219) rfl ⟨Nat.le_of_ble_eq_true rfl, rfl⟩ rfl ?_
            refine Ex.steps 3 (S' := (3, [.int 1, .int 0, .int x1], [(0, .ref 0), (1, .int x1), (2, .int x2)], hM, 0, 0)) rfl ?_
            refine Ex.call0 (as := [.int x1, .int 0, .int 1]) (rest := []) (r := (some (.int 1))) (c1 := 0) (s1 := 0) rfl rfl rfl rfl (by
              refine Rn.of (me := me145) rfl ⟨Nat.le_of_ble_eq_true rfl, rfl⟩ rfl ?_
              refine Ex.steps 2 (S' := (2, [.int 0, .int x1], [(0, .int x1), (1, .int 0), (2, .int 1)], [], 0, 0)) rfl ?_
              refine Ex.icmp rfl (cF_lt h1) rfl ?_
              refine Ex.steps 2 (S' := (7, [.int 1, .int x1], [(0, .int x1), (1, .int 0), (2, .int 1)], [], 0, 0)) rfl ?_
              refine Ex.icmp rfl (cF_gt h2) rfl ?_
              refine Ex.steps 2 (S' := (15, [.int 1], [(0, .int x1), (1, .int 0), (2, .int 1)], [], 0, 0)) rfl ?_
              exact Ex.ret rfl rfl) ?_
            refine Ex.steps 0 (S' := (6, [.int 1], [(0, .ref 0), (1, .int x1), (2, .int x2)], hM, 0, 0)) rfl ?_
            refine Ex.steps 1 (S' := (9, [], [(0, .ref 0), (1, .int x1), (2, .int x2)], hM, 0, 0)) rfl ?_
            refine Ex.steps 3 (S' := (12, [.int 2, .int 0, .int x2], [(0, .ref 0), (1, .int x1), (2, .int x2)], hM, 0, 0)) rfl ?_
            refine Ex.call0 (as := [.int x2, .int 0, .int 2]) (rest := []) (r := (some (.int 1))) (c1 := 0) (s1 := 0) rfl rfl rfl rfl (by
              refine Rn.of (me := me145) rfl ⟨Nat.le_of_ble_eq_true rfl, rfl⟩ rfl ?_
              refine Ex.steps 2 (S' := (2, [.int 0, .int x2], [(0, .int x2), (1, .int 0), (2, .int 2)], [], 0, 0)) rfl ?_
              refine Ex.icmp rfl (cF_lt h3) rfl ?_
              refine Ex.steps 2 (S' := (7, [.int 2, .int x2], [(0, .int x2), (1, .int 0), (2, .int 2)], [], 0, 0)) rfl ?_
              refine Ex.icmp rfl (cF_gt h4) rfl ?_
              refine Ex.steps 2 (S' := (15, [.int 1], [(0, .int x2), (1, .int 0), (2, .int 2)], [], 0, 0)) rfl ?_
              exact Ex.ret rfl rfl) ?_
            refine Ex.steps 0 (S' := (15, [.int 1], [(0, .ref 0), (1, .int x1), (2, .int x2)], hM, 0, 0)) rfl ?_
            refine Ex.steps 1 (S' := (21, [], [(0, .ref 0), (1, .int x1), (2, .int x2)], hM, 0, 0)) rfl ?_
            refine Ex.steps 2 (S' := (23, [.int x1, .ref 0], [(0, .ref 0), (1, .int x1), (2, .int x2)], hM, 0, 0)) rfl ?_
            refine Ex.callS (as := [.ref 0, .int x1]) (rest := []) (I := [0, 1, 2, 3, 4, 5, 6, 7, 8, 9, 10, 11, 12, 13, 14]) (as' := [.ref 0, .int x1]) (h := hM) (h1 := (hM.set 0 (.inl (12, [.ref 1, .ref 2, .ref 3, .int 0, .ref 4, .ref 5, .int 0, .ref 6, .ref 7, .int 0, .ref 8, .int 0, .ref 9, .ref 10, .ref 11, .ref 12, .int 0, .int 0, .int 0, .ref 13, .int 0, .int 0, .int 0, .ref 14])))) (r := none) (c1 := 0) (s1 := 0) (σ2 := (((((((((((((((hM.set 0 (.inl (12, [.ref 1, .ref 2, .ref 3, .int 0, .ref 4, .ref 5, .int 0, .ref 6, .ref 7, .int 0, .ref 8, .int 0, .ref 9, .ref 10, .ref 11, .ref 12, .int 0, .int 0, .int 0, .ref 13, .int 0, .int 0, .int 0, .ref 14]))).set 1 (.inr (0, .inl [3, 0, 0, 0, 0, 0, 0, 0, 3, 5, 0, 0, 0, 0, 0, 0, 0, 100, 0, 0, (-1), 0, 0, 0, 0, 0, 0, 0, 0, 0, 0, 0, 0, 0, 0, 0, 0, 0, 0, 0, 0, 0, 1, 0, 0, 0, 0, 0, 0, 0, 0, 0, 0, 0, 0, 0, 0, 0, 0, 0, 0, 0, 0, 0, 0, 0, 0, 0, 0, 0, 0, 0, 0, 0, 0, 0, 0, 0, 0, 0, 0, 0, 1, 0, 0, 0, 0, 0, 0, 0, 0, 0, 0, 0, 0, 0, 0, 0, 0, 0, 0, 0, 0, 0, 0, 0, 0, 0, 0, 0, 0, 0, 0, 0, 0, 0, 0, 0, 0, 0, 0, 0, 1, 0, 0, 0, 0, 0, 0, 0, 0, 0, 0, 0, 0, 0, 0, 0, 0, 0, 0, 0, 0, 0, 0, 0, 0, 0, 0, 0, 0, 0, 0, 0, 0, 0, 0, 0, 0, 0, 0, 0, 1, 0, 0, 0, 0, 0, 0, 0, 0, 0, 0, 0, 0, 0, 0, 0, 0, 0, 0, 0, 0, 0, 0, 0, 0, 0, 0, 0, 0, 0, 0, 0, 0, 0, 0, 0, 0, 0, 0, 0, 0, 0, 0, 0, 0, 0, 0, 0, 0, 0, 0, 0, 0, 0, 0, 0, 0, 0, 0, 0, 0, 0, 0, 0, 0, 0, 0, 0, 0, 0, 0, 0, 0, 0, 0, 0, 0, 0, 0, 0, 0, 0, 0, 0, 0, 0, 0, 0, 0, 0, 0, 0, 0, 0, 0, 0, 0, 0, 0, 0, 0, 0, 0, 0, 0, 0, 0, 0, 0, 0, 0, 0, 0, 0, 0, 0, 0, 0, 0, 0, 0, 0, 0, 0, 0, 0, 0, 0, 0, 0, 0, 0, 0, 0, 0, 0, 0, 0, 0, 0, 0, 0, 0, 0, 0, 0, 0, 0, 0, 0, 0, 0, 0, 0, 0, 0, 0, 0, 0, 0, 0, 0, 0, 0, 0, 0, 0, 0, 0, 0, 0, 0, 0, 0, 0, 0, 0, 0, 0, 0, 0, 0, 0, 0, 0, 0, 0, 0, 0, 0, 0, 0, 0, 0, 0, 0, 0, 0, 0, 0, 0, 0, 0, 0, 0, 0, 0, 0, 0, 0, 0, 0, 0, 0, 0, 0, 0, 0, 0, 0, 0, 0, 0, 0, 0, 0, 0, 0, 0, 0, 0, 0, 0, 0, 0, 0, 0, 0, 0, 0, 0, 0, 0, 0, 0, 0, 0, 0, 0, 0, 0, 0, 0, 0, 0, 0, 0, 0, 0, 0, 0, 0, 0, 0, 0, 0, 0, 0, 0, 0, 0, 0, 0, 0, 0, 0, 0, 0, 0, 0, 0, 0, 0, 0, 0, 0, 0, 0, 0, 0, 0, 0, 0, 0, 0, 0, 0, 0, 0, 0, 0, 0, 0, 0, 0, 0, 0, 0, 0, 0, 0, 0, 0, 0, 0, 0, 0, 0, 0, 0, 0, 0, 0, 0, 0, 0, 0, 0, 0, 0, 0, 0, 0, 0, 0, 0, 0, 0, 0, 0, 0, 0, 0, 0, 0, 0, 0, 0, 0, 0, 0, 0, 0, 0, 0, 0, 0, 0, 0, 0, 0, 0, 0, 0, 0, 0, 0, 0, 0, 0, 0, 0, 0, 0, 0, 0, 0, 0, 0, 0, 0, 0, 0, 0, 0, 0, 0, 0, 0, 0, 0, 0, 0, 0, 0, 0, 0, 0, 0, 0, 0, 0, 0, 0, 0, 0, 0, 0, 0, 0, 0, 0, 0, 0, 0, 0, 0, 0, 0, 0, 0, 0, 0, 0, 0, 0, 0, 0, 0, 0, 0, 0, 0, 0, 0, 0, 0, 0, 0, 0, 0, 0, 0, 0, 0, 0, 0, 0, 0, 0, 0, 0, 0, 0, 0, 0, 0, 0, 0, 0, 0, 0, 0, 0, 0, 0, 0, 0, 0, 0, 0, 0, 0, 0, 0, 0, 0, 0, 0, 0, 0, 0, 0, 0, 0, 0, 0, 0, 0, 0, 0, 0, 0, 0, 0, 0, 0, 0, 0, 0, 0, 0, 0, 0, 0, 0, 0, 0, 0, 0, 0, 0, 0, 0, 0, 0, 0, 0, 0, 0, 0, 0, 0, 0, 0, 0, 0, 0, 0, 0, 0, 0, 0, 0, 0, 0, 0, 0, 0, 0, 0, 0, 0, 0, 0, 0, 0, 0, 0, 0, 0, 0, 0, 0, 0, 0, 0, 0, 0, 0, 0, 0, 0, 0, 0, 0, 0, 0, 0, 0, 0, 0, 0, 0, 0, 0, 0, 0, 0, 0, 0, 0, 0, 0, 0, 0, 0, 0, 0, 0, 0, 0, 0, 0, 0, 0, 0, 0, 0, 0, 0, 0, 0, 0, 0, 0, 0, 0, 0, 0, 0, 0, 0, 0, 0, 0, 0, 0, 0, 0, 0, 0, (-100), 100, (-100), 100, (-100), 100, (-100), 100, 0, 0, 0, 0, 0, 0, 0, 0, 0, 0, 0, 0, 0, 0, 0, 0, 0, 0, 0, 0, 0, 0, 0, 0, 0, 0, 0, 0, 0, 0, 0, 0, 0, 0, 0, 0, 0, 0, 0, 0, 0, 0, 0, 0, 0, 0, 0, 0, 0, 0, 0, 0, 0, 0, 0, 0, 0, 0, 0, 0, 0, 0, 0, 0, 0, 0, 0, 0, 0, 0, 0, 0, 0, 0, 0, 0, 0, 0, 0, 0, 0, 0, 0, 0, 0, 0, 0, 0, 0, 0, 0, 0, 0, 0, 0, 0, 0, 0, 0, 0, 0, 0, 0, 0, 0, 0, 0, 0, 0, 0, 0, 0, 0, 0, 0, 0, 0, 0]))).set 2 (.inr (0, .inl (List.replicate 1820 0)))).set 3 (.inr (3, .inl (List.replicate 2 0)))).set 4 (.inr (0, .inl (List.replicate 70 0)))).set 5 (.inr (0, .inl (List.replicate 70 0)))).set 6 (.inr (0, .inl (List.replicate 70 0)))).set 7 (.inr (1, .inr (.inl (List.replicate 70 0))))).set 8 (.inr (1, .inr (.inl (List.replicate 8 0))))).set 9 (.inr (0, .inl (List.replicate 910 0)))).set 10 (.inr (0, .inl (List.replicate 910 0)))).set 11 (.inr (0, .inl (List.replicate 20 0)))).set 12 (.inr (0, .inl (List.replicate 20 0)))).set 13 (.inr (0, .inl (List.replicate 910 0)))).set 14 (.inr (1, .inr (.inl (List.replicate 4 0)))))) rfl rfl rfl rfl rfl rfl rfl (by
              refine Rn.of (me := me220) rfl ⟨Nat.le_of_ble_eq_true rfl, rfl⟩ rfl ?_
              refine Ex.steps 12 (S' := (16, [.int 1, .int 1], [(2, .int 1), (0, .ref 0), (1, .int x1)], (hM.set 0 (.inl (12, [.ref 1, .ref 2, .ref 3, .int 0, .ref 4, .ref 5, .int 0, .ref 6, .ref 7, .int 0, .ref 8, .int 0, .ref 9, .ref 10, .ref 11, .ref 12, .int 0, .int 0, .int 0, .ref 13, .int 0, .int 0, .int 0, .ref 14]))), 0, 0)) rfl ?_
              refine Ex.steps 1 (S' := (209, [], [(2, .int 1), (0, .ref 0), (1, .int x1)], (hM.set 0 (.inl (12, [.ref 1, .ref 2, .ref 3, .int 0, .ref 4, .ref 5, .int 0, .ref 6, .ref 7, .int 0, .ref 8, .int 0, .ref 9, .ref 10, .ref 11, .ref 12, .int 0, .int 0, .int 0, .ref 13, .int 0, .int 0, .int 0, .ref 14]))), 0, 0)) rfl ?_
              exact Ex.ret rfl rfl) rfl rfl rfl ?_
            refine Ex.steps 0 (S' := (26, [], [(0, .ref 0), (1, .int x1), (2, .int x2)], (((((((((((((((hM.set 0 (.inl (12, [.ref 1, .ref 2, .ref 3, .int 0, .ref 4, .ref 5, .int 0, .ref 6, .ref 7, .int 0, .ref 8, .int 0, .ref 9, .ref 10, .ref 11, .ref 12, .int 0, .int 0, .int 0, .ref 13, .int 0, .int 0, .int 0, .ref 14]))).set 1 (.inr (0, .inl [3, 0, 0, 0, 0, 0, 0, 0, 3, 5, 0, 0, 0, 0, 0, 0, 0, 100, 0, 0, (-1), 0, 0, 0, 0, 0, 0, 0, 0, 0, 0, 0, 0, 0, 0, 0, 0, 0, 0, 0, 0, 0, 1, 0, 0, 0, 0, 0, 0, 0, 0, 0, 0, 0, 0, 0, 0, 0, 0, 0, 0, 0, 0, 0, 0, 0, 0, 0, 0, 0, 0, 0, 0, 0, 0, 0, 0, 0, 0, 0, 0, 0, 1, 0, 0, 0, 0, 0, 0, 0, 0, 0, 0, 0, 0, 0, 0, 0, 0, 0, 0, 0, 0, 0, 0, 0, 0, 0, 0, 0, 0, 0, 0, 0, 0, 0, 0, 0, 0, 0, 0, 0, 1, 0, 0, 0, 0, 0, 0, 0, 0, 0, 0, 0, 0, 0, 0, 0, 0, 0, 0, 0, 0, 0, 0, 0, 0, 0, 0, 0, 0, 0, 0, 0, 0, 0, 0, 0, 0, 0, 0, 0, 1, 0, 0, 0, 0, 0, 0, 0, 0, 0, 0, 0, 0, 0, 0, 0, 0, 0, 0, 0, 0, 0, 0, 0, 0, 0, 0, 0, 0, 0, 0, 0, 0, 0, 0, 0, 0, 0, 0, 0, 0, 0, 0, 0, 0, 0, 0, 0, 0, 0, 0, 0, 0, 0, 0, 0, 0, 0, 0, 0, 0, 0, 0, 0, 0, 0, 0, 0, 0, 0, 0, 0, 0, 0, 0, 0, 0, 0, 0, 0, 0, 0, 0, 0, 0, 0, 0, 0, 0, 0, 0, 0, 0, 0, 0, 0, 0, 0, 0, 0, 0, 0, 0, 0, 0, 0, 0, 0, 0, 0, 0, 0, 0, 0, 0, 0, 0, 0, 0, 0, 0, 0, 0, 0, 0, 0, 0, 0, 0, 0, 0, 0, 0, 0, 0, 0, 0, 0, 0, 0, 0, 0, 0, 0, 0, 0, 0, 0, 0, 0, 0, 0, 0, 0, 0, 0, 0, 0, 0, 0, 0, 0, 0, 0, 0, 0, 0, 0, 0, 0, 0, 0, 0, 0, 0, 0, 0, 0, 0, 0, 0, 0, 0, 0, 0, 0, 0, 0, 0, 0, 0, 0, 0, 0, 0, 0, 0, 0, 0, 0, 0, 0, 0, 0, 0, 0, 0, 0, 0, 0, 0, 0, 0, 0, 0, 0, 0, 0, 0, 0, 0, 0, 0, 0, 0, 0, 0, 0, 0, 0, 0, 0, 0, 0, 0, 0, 0, 0, 0, 0, 0, 0, 0, 0, 0, 0, 0, 0, 0, 0, 0, 0, 0, 0, 0, 0, 0, 0, 0, 0, 0, 0, 0, 0, 0, 0, 0, 0, 0, 0, 0, 0, 0, 0, 0, 0, 0, 0, 0, 0, 0, 0, 0, 0, 0, 0, 0, 0, 0, 0, 0, 0, 0, 0, 0, 0, 0, 0, 0, 0, 0, 0, 0, 0, 0, 0, 0, 0, 0, 0, 0, 0, 0, 0, 0, 0, 0, 0, 0, 0, 0, 0, 0, 0, 0, 0, 0, 0, 0, 0, 0, 0, 0, 0, 0, 0, 0, 0, 0, 0, 0, 0, 0, 0, 0, 0, 0, 0, 0, 0, 0, 0, 0, 0, 0, 0, 0, 0, 0, 0, 0, 0, 0, 0, 0, 0, 0, 0, 0, 0, 0, 0, 0, 0, 0, 0, 0, 0, 0, 0, 0, 0, 0, 0, 0, 0, 0, 0, 0, 0, 0, 0, 0, 0, 0, 0, 0, 0, 0, 0, 0, 0, 0, 0, 0, 0, 0, 0, 0, 0, 0, 0, 0, 0, 0, 0, 0, 0, 0, 0, 0, 0, 0, 0, 0, 0, 0, 0, 0, 0, 0, 0, 0, 0, 0, 0, 0, 0, 0, 0, 0, 0, 0, 0, 0, 0, 0, 0, 0, 0, 0, 0, 0, 0, 0, 0, 0, 0, 0, 0, 0, 0, 0, 0, 0, 0, 0, 0, 0, 0, 0, 0, 0, 0, 0, 0, 0, 0, 0, 0, 0, 0, 0, 0, 0, 0, 0, 0, 0, 0, 0, 0, 0, 0, 0, 0, 0, 0, 0, 0, 0, 0, 0, 0, 0, 0, 0, 0, 0, 0, 0, 0, 0, 0, 0, 0, 0, 0, 0, 0, 0, 0, 0, 0, 0, 0, 0, 0, 0, 0, 0, 0, 0, 0, 0, 0, 0, 0, 0, 0, 0, 0, 0, 0, 0, 0, 0, 0, 0, 0, 0, 0, 0, 0, 0, 0, 0, 0, 0, 0, 0, 0, 0, 0, 0, 0, 0, 0, 0, 0, 0, 0, 0, 0, 0, 0, 0, 0, 0, 0, 0, 0, 0, 0, 0, 0, 0, 0, 0, 0, 0, 0, 0, 0, 0, 0, 0, 0, 0, 0, 0, 0, 0, 0, 0, 0, 0, 0, 0, 0, 0, 0, 0, 0, 0, 0, 0, 0, 0, 0, 0, 0, (-100), 100, (-100), 100, (-100), 100, (-100), 100, 0, 0, 0, 0, 0, 0, 0, 0, 0, 0, 0, 0, 0, 0, 0, 0, 0, 0, 0, 0, 0, 0, 0, 0, 0, 0, 0, 0, 0, 0, 0, 0, 0, 0, 0, 0, 0, 0, 0, 0, 0, 0, 0, 0, 0, 0, 0, 0, 0, 0, 0, 0, 0, 0, 0, 0, 0, 0, 0, 0, 0, 0, 0, 0, 0, 0, 0, 0, 0, 0, 0, 0, 0, 0, 0, 0, 0, 0, 0, 0, 0, 0, 0, 0, 0, 0, 0, 0, 0, 0, 0, 0, 0, 0, 0, 0, 0, 0, 0, 0, 0, 0, 0, 0, 0, 0, 0, 0, 0, 0, 0, 0, 0, 0, 0, 0, 0, 0]))).set 2 (.inr (0, .inl (List.replicate 1820 0)))).set 3 (.inr (3, .inl (List.replicate 2 0)))).set 4 (.inr (0, .inl (List.replicate 70 0)))).set 5 (.inr (0, .inl (List.replicate 70 0)))).set 6 (.inr (0, .inl (List.replicate 70 0)))).set 7 (.inr (1, .inr (.inl (List.replicate 70 0))))).set 8 (.inr (1, .inr (.inl (List.replicate 8 0))))).set 9 (.inr (0, .inl (List.replicate 910 0)))).set 10 (.inr (0, .inl (List.replicate 910 0)))).set 11 (.inr (0, .inl (List.replicate 20 0)))).set 12 (.inr (0, .inl (List.replicate 20 0)))).set 13 (.inr (0, .inl (List.replicate 910 0)))).set 14 (.inr (1, .inr (.inl (List.replicate 4 0))))), 0, 0)) rfl ?_
            refine Ex.steps 2 (S' := (30, [.int 0], [(0, .ref 0), (1, .int x1), (2, .int x2)], (((((((((((((((hM.set 0 (.inl (12, [.ref 1, .ref 2, .ref 3, .int 0, .ref 4, .ref 5, .int 0, .ref 6, .ref 7, .int 0, .ref 8, .int 0, .ref 9, .ref 10, .ref 11, .ref 12, .int 0, .int 0, .int 0, .ref 13, .int 0, .int 0, .int 0, .ref 14]))).set 1 (.inr (0, .inl [3, 0, 0, 0, 0, 0, 0, 0, 3, 5, 0, 0, 0, 0, 0, 0, 0, 100, 0, 0, (-1), 0, 0, 0, 0, 0, 0, 0, 0, 0, 0, 0, 0, 0, 0, 0, 0, 0, 0, 0, 0, 0, 1, 0, 0, 0, 0, 0, 0, 0, 0, 0, 0, 0, 0, 0, 0, 0, 0, 0, 0, 0, 0, 0, 0, 0, 0, 0, 0, 0, 0, 0, 0, 0, 0, 0, 0, 0, 0, 0, 0, 0, 1, 0, 0, 0, 0, 0, 0, 0, 0, 0, 0, 0, 0, 0, 0, 0, 0, 0, 0, 0, 0, 0, 0, 0, 0, 0, 0, 0, 0, 0, 0, 0, 0, 0, 0, 0, 0, 0, 0, 0, 1, 0, 0, 0, 0, 0, 0, 0, 0, 0, 0, 0, 0, 0, 0, 0, 0, 0, 0, 0, 0, 0, 0, 0, 0, 0, 0, 0, 0, 0, 0, 0, 0, 0, 0, 0, 0, 0, 0, 0, 1, 0, 0, 0, 0, 0, 0, 0, 0, 0, 0, 0, 0, 0, 0, 0, 0, 0, 0, 0, 0, 0, 0, 0, 0, 0, 0, 0, 0, 0, 0, 0, 0, 0, 0, 0, 0, 0, 0, 0, 0, 0, 0, 0, 0, 0, 0, 0, 0, 0, 0, 0, 0, 0, 0, 0, 0, 0, 0, 0, 0, 0, 0, 0, 0, 0, 0, 0, 0, 0, 0, 0, 0, 0, 0, 0, 0, 0, 0, 0, 0, 0, 0, 0, 0, 0, 0, 0, 0, 0, 0, 0, 0, 0, 0, 0, 0, 0, 0, 0, 0, 0, 0, 0, 0, 0, 0, 0, 0, 0, 0, 0, 0, 0, 0, 0, 0, 0, 0, 0, 0, 0, 0, 0, 0, 0, 0, 0, 0, 0, 0, 0, 0, 0, 0, 0, 0, 0, 0, 0, 0, 0, 0, 0, 0, 0, 0, 0, 0, 0, 0, 0, 0, 0, 0, 0, 0, 0, 0, 0, 0, 0, 0, 0, 0, 0, 0, 0, 0, 0, 0, 0, 0, 0, 0, 0, 0, 0, 0, 0, 0, 0, 0, 0, 0, 0, 0, 0, 0, 0, 0, 0, 0, 0, 0, 0, 0, 0, 0, 0, 0, 0, 0, 0, 0, 0, 0, 0, 0, 0, 0, 0, 0, 0, 0, 0, 0, 0, 0, 0, 0, 0, 0, 0, 0, 0, 0, 0, 0, 0, 0, 0, 0, 0, 0, 0, 0, 0, 0, 0, 0, 0, 0, 0, 0, 0, 0, 0, 0, 0, 0, 0, 0, 0, 0, 0, 0, 0, 0, 0, 0, 0, 0, 0, 0, 0, 0, 0, 0, 0, 0, 0, 0, 0, 0, 0, 0, 0, 0, 0, 0, 0, 0, 0, 0, 0, 0, 0, 0, 0, 0, 0, 0, 0, 0, 0, 0, 0, 0, 0, 0, 0, 0, 0, 0, 0, 0, 0, 0, 0, 0, 0, 0, 0, 0, 0, 0, 0, 0, 0, 0, 0, 0, 0, 0, 0, 0, 0, 0, 0, 0, 0, 0, 0, 0, 0, 0, 0, 0, 0, 0, 0, 0, 0, 0, 0, 0, 0, 0, 0, 0, 0, 0, 0, 0, 0, 0, 0, 0, 0, 0, 0, 0, 0, 0, 0, 0, 0, 0, 0, 0, 0, 0, 0, 0, 0, 0, 0, 0, 0, 0, 0, 0, 0, 0, 0, 0, 0, 0, 0, 0, 0, 0, 0, 0, 0, 0, 0, 0, 0, 0, 0, 0, 0, 0, 0, 0, 0, 0, 0, 0, 0, 0, 0, 0, 0, 0, 0, 0, 0, 0, 0, 0, 0, 0, 0, 0, 0, 0, 0, 0, 0, 0, 0, 0, 0, 0, 0, 0, 0, 0, 0, 0, 0, 0, 0, 0, 0, 0, 0, 0, 0, 0, 0, 0, 0, 0, 0, 0, 0, 0, 0, 0, 0, 0, 0, 0, 0, 0, 0, 0, 0, 0, 0, 0, 0, 0, 0, 0, 0, 0, 0, 0, 0, 0, 0, 0, 0, 0, 0, 0, 0, 0, 0, 0, 0, 0, 0, 0, 0, 0, 0, 0, 0, 0, 0, 0, 0, 0, 0, 0, 0, 0, 0, 0, 0, 0, 0, 0, 0, 0, 0, 0, 0, 0, 0, 0, 0, 0, 0, 0, 0, 0, 0, 0, 0, 0, 0, 0, 0, 0, 0, 0, 0, 0, 0, 0, 0, 0, 0, 0, 0, 0, 0, 0, 0, 0, 0, 0, 0, 0, 0, 0, 0, 0, 0, 0, 0, 0, 0, 0, 0, 0, 0, 0, 0, 0, 0, 0, 0, 0, 0, 0, 0, 0, 0, 0, 0, 0, 0, 0, 0, 0, 0, 0, 0, 0, 0, 0, 0, 0, 0, 0, 0, 0, 0, 0, 0, 0, 0, 0, 0, 0, 0, 0, 0, 0, 0, 0, 0, 0, 0, (-100), 100, (-100), 100, (-100), 100, (-100), 100, 0, 0, 0, 0, 0, 0, 0, 0, 0, 0, 0, 0, 0, 0, 0, 0, 0, 0, 0, 0, 0, 0, 0, 0, 0, 0, 0, 0, 0, 0, 0, 0, 0, 0, 0, 0, 0, 0, 0, 0, 0, 0, 0, 0, 0, 0, 0, 0, 0, 0, 0, 0, 0, 0, 0, 0, 0, 0, 0, 0, 0, 0, 0, 0, 0, 0, 0, 0, 0, 0, 0, 0, 0, 0, 0, 0, 0, 0, 0, 0, 0, 0, 0, 0, 0, 0, 0, 0, 0, 0, 0, 0, 0, 0, 0, 0, 0, 0, 0, 0, 0, 0, 0, 0, 0, 0, 0, 0, 0, 0, 0, 0, 0, 0, 0, 0, 0, 0]))).set 2 (.inr (0, .inl (List.replicate 1820 0)))).set 3 (.inr (3, .inl (List.replicate 2 0)))).set 4 (.inr (0, .inl (List.replicate 70 0)))).set 5 (.inr (0, .inl (List.replicate 70 0)))).set 6 (.inr (0, .inl (List.replicate 70 0)))).set 7 (.inr (1, .inr (.inl (List.replicate 70 0))))).set 8 (.inr (1, .inr (.inl (List.replicate 8 0))))).set 9 (.inr (0, .inl (List.replicate 910 0)))).set 10 (.inr (0, .inl (List.replicate 910 0)))).set 11 (.inr (0, .inl (List.replicate 20 0)))).set 12 (.inr (0, .inl (List.replicate 20 0)))).set 13 (.inr (0, .inl (List.replicate 910 0)))).set 14 (.inr (1, .inr (.inl (List.replicate 4 0))))), 0, 0)) rfl ?_
            refine Ex.steps 1 (S' := (33, [], [(0, .ref 0), (1, .int x1), (2, .int x2)], (((((((((((((((hM.set 0 (.inl (12, [.ref 1, .ref 2, .ref 3, .int 0, .ref 4, .ref 5, .int 0, .ref 6, .ref 7, .int 0, .ref 8, .int 0, .ref 9, .ref 10, .ref 11, .ref 12, .int 0, .int 0, .int 0, .ref 13, .int 0, .int 0, .int 0, .ref 14]))).set 1 (.inr (0, .inl [3, 0, 0, 0, 0, 0, 0, 0, 3, 5, 0, 0, 0, 0, 0, 0, 0, 100, 0, 0, (-1), 0, 0, 0, 0, 0, 0, 0, 0, 0, 0, 0, 0, 0, 0, 0, 0, 0, 0, 0, 0, 0, 1, 0, 0, 0, 0, 0, 0, 0, 0, 0, 0, 0, 0, 0, 0, 0, 0, 0, 0, 0, 0, 0, 0, 0, 0, 0, 0, 0, 0, 0, 0, 0, 0, 0, 0, 0, 0, 0, 0, 0, 1, 0, 0, 0, 0, 0, 0, 0, 0, 0, 0, 0, 0, 0, 0, 0, 0, 0, 0, 0, 0, 0, 0, 0, 0, 0, 0, 0, 0, 0, 0, 0, 0, 0, 0, 0, 0, 0, 0, 0, 1, 0, 0, 0, 0, 0, 0, 0, 0, 0, 0, 0, 0, 0, 0, 0, 0, 0, 0, 0, 0, 0, 0, 0, 0, 0, 0, 0, 0, 0, 0, 0, 0, 0, 0, 0, 0, 0, 0, 0, 1, 0, 0, 0, 0, 0, 0, 0, 0, 0, 0, 0, 0, 0, 0, 0, 0, 0, 0, 0, 0, 0, 0, 0, 0, 0, 0, 0, 0, 0, 0, 0, 0, 0, 0, 0, 0, 0, 0, 0, 0, 0, 0, 0, 0, 0, 0, 0, 0, 0, 0, 0, 0, 0, 0, 0, 0, 0, 0, 0, 0, 0, 0, 0, 0, 0, 0, 0, 0, 0, 0, 0, 0, 0, 0, 0, 0, 0, 0, 0, 0, 0, 0, 0, 0, 0, 0, 0, 0, 0, 0, 0, 0, 0, 0, 0, 0, 0, 0, 0, 0, 0, 0, 0, 0, 0, 0, 0, 0, 0, 0, 0, 0, 0, 0, 0, 0, 0, 0, 0, 0, 0, 0, 0, 0, 0, 0, 0, 0, 0, 0, 0, 0, 0, 0, 0, 0, 0, 0, 0, 0, 0, 0, 0, 0, 0, 0, 0, 0, 0, 0, 0, 0, 0, 0, 0, 0, 0, 0, 0, 0, 0, 0, 0, 0, 0, 0, 0, 0, 0, 0, 0, 0, 0, 0, 0, 0, 0, 0, 0, 0, 0, 0, 0, 0, 0, 0, 0, 0, 0, 0, 0, 0, 0, 0, 0, 0, 0, 0, 0, 0, 0, 0, 0, 0, 0, 0, 0, 0, 0, 0, 0, 0, 0, 0, 0, 0, 0, 0, 0, 0, 0, 0, 0, 0, 0, 0, 0, 0, 0, 0, 0, 0, 0, 0, 0, 0, 0, 0, 0, 0, 0, 0, 0, 0, 0, 0, 0, 0, 0, 0, 0, 0, 0, 0, 0, 0, 0, 0, 0, 0, 0, 0, 0, 0, 0, 0, 0, 0, 0, 0, 0, 0, 0, 0, 0, 0, 0, 0, 0, 0, 0, 0, 0, 0, 0, 0, 0, 0, 0, 0, 0, 0, 0, 0, 0, 0, 0, 0, 0, 0, 0, 0, 0, 0, 0, 0, 0, 0, 0, 0, 0, 0, 0, 0, 0, 0, 0, 0, 0, 0, 0, 0, 0, 0, 0, 0, 0, 0, 0, 0, 0, 0, 0, 0, 0, 0, 0, 0, 0, 0, 0, 0, 0, 0, 0, 0, 0, 0, 0, 0, 0, 0, 0, 0, 0, 0, 0, 0, 0, 0, 0, 0, 0, 0, 0, 0, 0, 0, 0, 0, 0, 0, 0, 0, 0, 0, 0, 0, 0, 0, 0, 0, 0, 0, 0, 0, 0, 0, 0, 0, 0, 0, 0, 0, 0, 0, 0, 0, 0, 0, 0, 0, 0, 0, 0, 0, 0, 0, 0, 0, 0, 0, 0, 0, 0, 0, 0, 0, 0, 0, 0, 0, 0, 0, 0, 0, 0, 0, 0, 0, 0, 0, 0, 0, 0, 0, 0, 0, 0, 0, 0, 0, 0, 0, 0, 0, 0, 0, 0, 0, 0, 0, 0, 0, 0, 0, 0, 0, 0, 0, 0, 0, 0, 0, 0, 0, 0, 0, 0, 0, 0, 0, 0, 0, 0, 0, 0, 0, 0, 0, 0, 0, 0, 0, 0, 0, 0, 0, 0, 0, 0, 0, 0, 0, 0, 0, 0, 0, 0, 0, 0, 0, 0, 0, 0, 0, 0, 0, 0, 0, 0, 0, 0, 0, 0, 0, 0, 0, 0, 0, 0, 0, 0, 0, 0, 0, 0, 0, 0, 0, 0, 0, 0, 0, 0, 0, 0, 0, 0, 0, 0, 0, 0, 0, 0, 0, 0, 0, 0, 0, 0, 0, 0, 0, 0, 0, 0, 0, 0, 0, 0, 0, 0, 0, 0, 0, 0, 0, 0, 0, 0, 0, 0, 0, 0, 0, 0, 0, 0, 0, 0, 0, 0, 0, 0, 0, 0, 0, 0, 0, 0, 0, 0, 0, 0, 0, 0, 0, 0, 0, 0, 0, 0, 0, 0, 0, 0, 0, 0, 0, 0, 0, 0, 0, 0, 0, 0, 0, 0, 0, 0, (-100), 100, (-100), 100, (-100), 100, (-100), 100, 0, 0, 0, 0, 0, 0, 0, 0, 0, 0, 0, 0, 0, 0, 0, 0, 0, 0, 0, 0, 0, 0, 0, 0, 0, 0, 0, 0, 0, 0, 0, 0, 0, 0, 0, 0, 0, 0, 0, 0, 0, 0, 0, 0, 0, 0, 0, 0, 0, 0, 0, 0, 0, 0, 0, 0, 0, 0, 0, 0, 0, 0, 0, 0, 0, 0, 0, 0, 0, 0, 0, 0, 0, 0, 0, 0, 0, 0, 0, 0, 0, 0, 0, 0, 0, 0, 0, 0, 0, 0, 0, 0, 0, 0, 0, 0, 0, 0, 0, 0, 0, 0, 0, 0, 0, 0, 0, 0, 0, 0, 0, 0, 0, 0, 0, 0, 0, 0]))).set 2 (.inr (0, .inl (List.replicate 1820 0)))).set 3 (.inr (3, .inl (List.replicate 2 0)))).set 4 (.inr (0, .inl (List.replicate 70 0)))).set 5 (.inr (0, .inl (List.replicate 70 0)))).set 6 (.inr (0, .inl (List.replicate 70 0)))).set 7 (.inr (1, .inr (.inl (List.replicate 70 0))))).set 8 (.inr (1, .inr (.inl (List.replicate 8 0))))).set 9 (.inr (0, .inl (List.replicate 910 0)))).set 10 (.inr (0, .inl (List.replicate 910 0)))).set 11 (.inr (0, .inl (List.replicate 20 0)))).set 12 (.inr (0, .inl (List.replicate 20 0)))).set 13 (.inr (0, .inl (List.replicate 910 0)))).set 14 (.inr (1, .inr (.inl (List.replicate 4 0))))), 0, 0)) rfl ?_
            refine Ex.steps 1 (S' := (36, [.int (-2100000000)], [(0, .ref 0), (1, .int x1), (2, .int x2)], (((((((((((((((hM.set 0 (.inl (12, [.ref 1, .ref 2, .ref 3, .int 0, .ref 4, .ref 5, .int 0, .ref 6, .ref 7, .int 0, .ref 8, .int 0, .ref 9, .ref 10, .ref 11, .ref 12, .int 0, .int 0, .int 0, .ref 13, .int 0, .int 0, .int 0, .ref 14]))).set 1 (.inr (0, .inl [3, 0, 0, 0, 0, 0, 0, 0, 3, 5, 0, 0, 0, 0, 0, 0, 0, 100, 0, 0, (-1), 0, 0, 0, 0, 0, 0, 0, 0, 0, 0, 0, 0, 0, 0, 0, 0, 0, 0, 0, 0, 0, 1, 0, 0, 0, 0, 0, 0, 0, 0, 0, 0, 0, 0, 0, 0, 0, 0, 0, 0, 0, 0, 0, 0, 0, 0, 0, 0, 0, 0, 0, 0, 0, 0, 0, 0, 0, 0, 0, 0, 0, 1, 0, 0, 0, 0, 0, 0, 0, 0, 0, 0, 0, 0, 0, 0, 0, 0, 0, 0, 0, 0, 0, 0, 0, 0, 0, 0, 0, 0, 0, 0, 0, 0, 0, 0, 0, 0, 0, 0, 0, 1, 0, 0, 0, 0, 0, 0, 0, 0, 0, 0, 0, 0, 0, 0, 0, 0, 0, 0, 0, 0, 0, 0, 0, 0, 0, 0, 0, 0, 0, 0, 0, 0, 0, 0, 0, 0, 0, 0, 0, 1, 0, 0, 0, 0, 0, 0, 0, 0, 0, 0, 0, 0, 0, 0, 0, 0, 0, 0, 0, 0, 0, 0, 0, 0, 0, 0, 0, 0, 0, 0, 0, 0, 0, 0, 0, 0, 0, 0, 0, 0, 0, 0, 0, 0, 0, 0, 0, 0, 0, 0, 0, 0, 0, 0, 0, 0, 0, 0, 0, 0, 0, 0, 0, 0, 0, 0, 0, 0, 0, 0, 0, 0, 0, 0, 0, 0, 0, 0, 0, 0, 0, 0, 0, 0, 0, 0, 0, 0, 0, 0, 0, 0, 0, 0, 0, 0, 0, 0, 0, 0, 0, 0, 0, 0, 0, 0, 0, 0, 0, 0, 0, 0, 0, 0, 0, 0, 0, 0, 0, 0, 0, 0, 0, 0, 0, 0, 0, 0, 0, 0, 0, 0, 0, 0, 0, 0, 0, 0, 0, 0, 0, 0, 0, 0, 0, 0, 0, 0, 0, 0, 0, 0, 0, 0, 0, 0, 0, 0, 0, 0, 0, 0, 0, 0, 0, 0, 0, 0, 0, 0, 0, 0, 0, 0, 0, 0, 0, 0, 0, 0, 0, 0, 0, 0, 0, 0, 0, 0, 0, 0, 0, 0, 0, 0, 0, 0, 0, 0, 0, 0, 0, 0, 0, 0, 0, 0, 0, 0, 0, 0, 0, 0, 0, 0, 0, 0, 0, 0, 0, 0, 0, 0, 0, 0, 0, 0, 0, 0, 0, 0, 0, 0, 0, 0, 0, 0, 0, 0, 0, 0, 0, 0, 0, 0, 0, 0, 0, 0, 0, 0, 0, 0, 0, 0, 0, 0, 0, 0, 0, 0, 0, 0, 0, 0, 0, 0, 0, 0, 0, 0, 0, 0, 0, 0, 0, 0, 0, 0, 0, 0, 0, 0, 0, 0, 0, 0, 0, 0, 0, 0, 0, 0, 0, 0, 0, 0, 0, 0, 0, 0, 0, 0, 0, 0, 0, 0, 0, 0, 0, 0, 0, 0, 0, 0, 0, 0, 0, 0, 0, 0, 0, 0, 0, 0, 0, 0, 0, 0, 0, 0, 0, 0, 0, 0, 0, 0, 0, 0, 0, 0, 0, 0, 0, 0, 0, 0, 0, 0, 0, 0, 0, 0, 0, 0, 0, 0, 0, 0, 0, 0, 0, 0, 0, 0, 0, 0, 0, 0, 0, 0, 0, 0, 0, 0, 0, 0, 0, 0, 0, 0, 0, 0, 0, 0, 0, 0, 0, 0, 0, 0, 0, 0, 0, 0, 0, 0, 0, 0, 0, 0, 0, 0, 0, 0, 0, 0, 0, 0, 0, 0, 0, 0, 0, 0, 0, 0, 0, 0, 0, 0, 0, 0, 0, 0, 0, 0, 0, 0, 0, 0, 0, 0, 0, 0, 0, 0, 0, 0, 0, 0, 0, 0, 0, 0, 0, 0, 0, 0, 0, 0, 0, 0, 0, 0, 0, 0, 0, 0, 0, 0, 0, 0, 0, 0, 0, 0, 0, 0, 0, 0, 0, 0, 0, 0, 0, 0, 0, 0, 0, 0, 0, 0, 0, 0, 0, 0, 0, 0, 0, 0, 0, 0, 0, 0, 0, 0, 0, 0, 0, 0, 0, 0, 0, 0, 0, 0, 0, 0, 0, 0, 0, 0, 0, 0, 0, 0, 0, 0, 0, 0, 0, 0, 0, 0, 0, 0, 0, 0, 0, 0, 0, 0, 0, 0, 0, 0, 0, 0, 0, 0, 0, 0, 0, 0, 0, 0, 0, 0, 0, 0, 0, 0, 0, 0, 0, 0, 0, 0, 0, 0, 0, 0, 0, 0, 0, 0, 0, 0, 0, 0, 0, 0, 0, 0, 0, 0, 0, 0, 0, 0, 0, 0, 0, 0, 0, 0, 0, 0, 0, 0, 0, 0, 0, 0, 0, 0, 0, 0, 0, 0, 0, 0, 0, 0, 0, 0, 0, 0, 0, 0, 0, 0, 0, 0, 0, 0, 0, 0, 0, 0, 0, (-100), 100, (-100), 100, (-100), 100, (-100), 100, 0, 0, 0, 0, 0, 0, 0, 0, 0, 0, 0, 0, 0, 0, 0, 0, 0, 0, 0, 0, 0, 0, 0, 0, 0, 0, 0, 0, 0, 0, 0, 0, 0, 0, 0, 0, 0, 0, 0, 0, 0, 0, 0, 0, 0, 0, 0, 0, 0, 0, 0, 0, 0, 0, 0, 0, 0, 0, 0, 0, 0, 0, 0, 0, 0, 0, 0, 0, 0, 0, 0, 0, 0, 0, 0, 0, 0, 0, 0, 0, 0, 0, 0, 0, 0, 0, 0, 0, 0, 0, 0, 0, 0, 0, 0, 0, 0, 0, 0, 0, 0, 0, 0, 0, 0, 0, 0, 0, 0, 0, 0, 0, 0, 0, 0, 0, 0, 0]))).set 2 (.inr (0, .inl (List.replicate 1820 0)))).set 3 (.inr (3, .inl (List.replicate 2 0)))).set 4 (.inr (0, .inl (List.replicate 70 0)))).set 5 (.inr (0, .inl (List.replicate 70 0)))).set 6 (.inr (0, .inl (List.replicate 70 0)))).set 7 (.inr (1, .inr (.inl (List.replicate 70 0))))).set 8 (.inr (1, .inr (.inl (List.replicate 8 0))))).set 9 (.inr (0, .inl (List.replicate 910 0)))).set 10 (.inr (0, .inl (List.replicate 910 0)))).set 11 (.inr (0, .inl (List.replicate 20 0)))).set 12 (.inr (0, .inl (List.replicate 20 0)))).set 13 (.inr (0, .inl (List.replicate 910 0)))).set 14 (.inr (1, .inr (.inl (List.replicate 4 0))))), 0, 0)) rfl ?_
            exact Ex.ret rfl rfl) (by decide)
set_option maxHeartbeats 8000000 in
set_option maxRecDepth 100000 in
theorem both_clock (x1 x2 x3 : Int32) : BothI 128 221 [.int x1, .int x2, .int x3] := by
  by_cases h1 : (x1 : Int32) < 0
  ·
    exact mkI (x := (-2)) (c1 := 0) (s1 := 0) (c2 := 0) (s2 := 0) (by
      refine Rn.of (me := me128) rfl ⟨Nat.le_of_ble_eq_true rfl, rfl⟩ rfl ?_
      refine Ex.steps 2 (S' := (2, [.int x1, .ref 0], [(0, .ref 0), (1, .int x1), (2, .int x2), (3, .int x3)], hX, 0, 0)) rfl ?_
      refine Ex.callX (as := [.int x1]) (rest := []) (r := (some (.int 0))) (c1 := 0) (s1 := 0) rfl rfl rfl rfl xX1 xX2 rfl xX3 xX4 rfl okX (by
        refine Rn.of (me := me90) rfl ⟨Nat.le_of_ble_eq_true rfl, rfl⟩ rfl ?_
        refine Ex.steps 7 (S' := (11, [.int 2, .int 0, .int x1], [(0, .ref 0), (1, .int x1)], hX, 0, 0)) rfl ?_
        refine Ex.call0 (as := [.int x1, .int 0, .int 2]) (rest := []) (r := (some (.int 0))) (c1 := 0) (s1 := 0) rfl rfl rfl rfl (by
          refine Rn.of (me := me12) rfl ⟨Nat.le_of_ble_eq_true rfl, rfl⟩ rfl ?_
          refine Ex.steps 2 (S' := (2, [.int 0, .int x1], [(0, .int x1), (1, .int 0), (2, .int 2)], [], 0, 0)) rfl ?_
          refine Ex.icmp rfl (cT_lt h1) rfl ?_
          refine Ex.steps 1 (S' := (15, [.int 0], [(0, .int x1), (1, .int 0), (2, .int 2)], [], 0, 0)) rfl ?_
          exact Ex.ret rfl rfl) ?_
        refine Ex.steps 0 (S' := (14, [.int 0], [(0, .ref 0), (1, .int x1)], hX, 0, 0)) rfl ?_
        exact Ex.ret rfl rfl) ?_
      refine Ex.steps 0 (S' := (5, [.int 0], [(0, .ref 0), (1, .int x1), (2, .int x2), (3, .int x3)], hX, 0, 0)) rfl ?_
      refine Ex.steps 1 (S' := (32, [], [(0, .ref 0), (1, .int x1), (2, .int x2), (3, .int x3)], hX, 0, 0)) rfl ?_
      refine Ex.steps 1 (S' := (34, [.int (-2)], [(0, .ref 0), (1, .int x1), (2, .int x2), (3, .int x3)], hX, 0, 0)) rfl ?_
      exact Ex.ret rfl rfl) (by
      refine Rn.of (me := me221) rfl ⟨Nat.le_of_ble_eq_true rfl, rfl⟩ rfl ?_
      refine Ex.steps 2 (S' := (2, [.int x1, .ref 0], [(0, .ref 0), (1, .int x1), (2, .int x2), (3, .int x3)], hM, 0, 0)) rfl ?_
      refine Ex.callX (as := [.int x1]) (rest := []) (r := (some (.int 0))) (c1 := 0) (s1 := 0) rfl rfl rfl rfl xM1 xM2 rfl xM3 xM4 rfl okM (by
        refine Rn.of (me := me173) rfl ⟨Nat.le_of_ble_eq_true rfl, rfl⟩ rfl ?_
        refine Ex.steps 8 (S' := (10, [.int 2, .int 0, .int x1], [(0, .ref 0), (1, .int x1)], hM, 0, 0)) rfl ?_
        refine Ex.call0 (as := [.int x1, .int 0, .int 2]) (rest := []) (r := (some (.int 0))) (c1 := 0) (s1 := 0) rfl rfl rfl rfl (by
          refine Rn.of (me := me145) rfl ⟨Nat.le_of_ble_eq_true rfl, rfl⟩ rfl ?_
          refine Ex.steps 2 (S' := (2, [.int 0, .int x1], [(0, .int x1), (1, .int 0), (2, .int 2)], [], 0, 0)) rfl ?_
          refine Ex.icmp rfl (cT_lt h1) rfl ?_
          refine Ex.steps 1 (S' := (15, [.int 0], [(0, .int x1), (1, .int 0), (2, .int 2)], [], 0, 0)) rfl ?_
          exact Ex.ret rfl rfl) ?_
        refine Ex.steps 0 (S' := (13, [.int 0], [(0, .ref 0), (1, .int x1)], hM, 0, 0)) rfl ?_
        exact Ex.ret rfl rfl) ?_
      refine Ex.steps 0 (S' := (5, [.int 0], [(0, .ref 0), (1, .int x1), (2, .int x2), (3, .int x3)], hM, 0, 0)) rfl ?_
      refine Ex.steps 1 (S' := (32, [], [(0, .ref 0), (1, .int x1), (2, .int x2), (3, .int x3)], hM, 0, 0)) rfl ?_
      refine Ex.steps 1 (S' := (34, [.int (-2)], [(0, .ref 0), (1, .int x1), (2, .int x2), (3, .int x3)], hM, 0, 0)) rfl ?_
      exact Ex.ret rfl rfl) (by decide)
  ·
    by_cases h2 : (2 : Int32) < x1
    ·
      exact mkI (x := (-2)) (c1 := 0) (s1 := 0) (c2 := 0) (s2 := 0) (by
        refine Rn.of (me := me128) rfl ⟨Nat.le_of_ble_eq_true rfl, rfl⟩ rfl ?_
        refine Ex.steps 2 (S' := (2, [.int x1, .ref 0], [(0, .ref 0), (1, .int x1), (2, .int x2), (3, .int x3)], hX, 0, 0)) rfl ?_
        refine Ex.callX (as := [.int x1]) (rest := []) (r := (some (.int 0))) (c1 := 0) (s1 := 0) rfl rfl rfl rfl xX1 xX2 rfl xX3 xX4 rfl okX (by
          refine Rn.of (me := me90) rfl ⟨Nat.le_of_ble_eq_true rfl, rfl⟩ rfl ?_
          refine Ex.steps 7 (S' := (11, [.int 2, .int 0, .int x1], [(0, .ref 0), (1, .int x1)], hX, 0, 0)) rfl ?_
          refine Ex.call0 (as := [.int x1, .int 0, .int 2]) (rest := []) (r := (some (.int 0))) (c1 := 0) (s1 := 0) rfl rfl rfl rfl (by
            refine Rn.of (me := me12) rfl ⟨Nat.le_of_ble_eq_true rfl, rfl⟩ rfl ?_
            refine Ex.steps 2 (S' := (2, [.int 0, .int x1], [(0, .int x1), (1, .int 0), (2, .int 2)], [], 0, 0)) rfl ?_
            refine Ex.icmp rfl (cF_lt h1) rfl ?_
            refine Ex.steps 2 (S' := (7, [.int 2, .int x1], [(0, .int x1), (1, .int 0), (2, .int 2)], [], 0, 0)) rfl ?_
            refine Ex.icmp rfl (cT_gt h2) rfl ?_
            refine Ex.steps 1 (S' := (15, [.int 0], [(0, .int x1), (1, .int 0), (2, .int 2)], [], 0, 0)) rfl ?_
            exact Ex.ret rfl rfl) ?_
          refine Ex.steps 0 (S' := (14, [.int 0], [(0, .ref 0), (1, .int x1)], hX, 0, 0)) rfl ?_
          exact Ex.ret rfl rfl) ?_
        refine Ex.steps 0 (S' := (5, [.int 0], [(0, .ref 0), (1, .int x1), (2, .int x2), (3, .int x3)], hX, 0, 0)) rfl ?_
        refine Ex.steps 1 (S' := (32, [], [(0, .ref 0), (1, .int x1), (2, .int x2), (3, .int x3)], hX, 0, 0)) rfl ?_
        refine Ex.steps 1 (S' := (34, [.int (-2)], [(0, .ref 0), (1, .int x1), (2, .int x2), (3, .int x3)], hX, 0, 0)) rfl ?_
        exact Ex.ret rfl rfl) (by
        refine Rn.of (me := me221) rfl ⟨Nat.le_of_ble_eq_true rfl, rfl⟩ rfl ?_
        refine Ex.steps 2 (S' := (2, [.int x1, .ref 0], [(0, .ref 0), (1, .int x1), (2, .int x2), (3, .int x3)], hM, 0, 0)) rfl ?_
        refine Ex.callX (as := [.int x1]) (rest := []) (r := (some (.int 0))) (c1 := 0) (s1 := 0) rfl rfl rfl rfl xM1 xM2 rfl xM3 xM4 rfl okM (by
          refine Rn.of (me := me173) rfl ⟨Nat.le_of_ble_eq_true rfl, rfl⟩ rfl ?_
          refine Ex.steps 8 (S' := (10, [.int 2, .int 0, .int x1], [(0, .ref 0), (1, .int x1)], hM, 0, 0)) rfl ?_
          refine Ex.call0 (as := [.int x1, .int 0, .int 2]) (rest := []) (r := (some (.int 0))) (c1 := 0) (s1 := 0) rfl rfl rfl rfl (by
            refine Rn.of (me := me145) rfl ⟨Nat.le_of_ble_eq_true rfl, rfl⟩ rfl ?_
            refine Ex.steps 2 (S' := (2, [.int 0, .int x1], [(0, .int x1), (1, .int 0), (2, .int 2)], [], 0, 0)) rfl ?_
            refine Ex.icmp rfl (cF_lt h1) rfl ?_
            refine Ex.steps 2 (S' := (7, [.int 2, .int x1], [(0, .int x1), (1, .int 0), (2, .int 2)], [], 0, 0)) rfl ?_
            refine Ex.icmp rfl (cT_gt h2) rfl ?_
            refine Ex.steps 1 (S' := (15, [.int 0], [(0, .int x1), (1, .int 0), (2, .int 2)], [], 0, 0)) rfl ?_
            exact Ex.ret rfl rfl) ?_
          refine Ex.steps 0 (S' := (13, [.int 0], [(0, .ref 0), (1, .int x1)], hM, 0, 0)) rfl ?_
          exact Ex.ret rfl rfl) ?_
        refine Ex.steps 0 (S' := (5, [.int 0], [(0, .ref 0), (1, .int x1), (2, .int x2), (3, .int x3)], hM, 0, 0)) rfl ?_
        refine Ex.steps 1 (S' := (32, [], [(0, .ref 0), (1, .int x1), (2, .int x2), (3, .int x3)], hM, 0, 0)) rfl ?_
        refine Ex.steps 1 (S' := (34, [.int (-2)], [(0, .ref 0), (1, .int x1), (2, .int x2), (3, .int x3)], hM, 0, 0)) rfl ?_
        exact Ex.ret rfl rfl) (by decide)
    ·
      by_cases h3 : (x2 : Int32) < (-1000000)
      ·
        exact mkI (x := (-2)) (c1 := 0) (s1 := 0) (c2 := 0) (s2 := 0) (by
          refine Rn.of (me := me128) rfl ⟨Nat.le_of_ble_eq_true rfl, rfl⟩ rfl ?_
          refine Ex.steps 2 (S' := (2, [.int x1, .ref 0], [(0, .ref 0), (1, .int x1), (2, .int x2), (3, .int x3)], hX, 0, 0)) rfl ?_
          refine Ex.callX (as := [.int x1]) (rest := []) (r := (some (.int 1))) (c1 := 0) (s1 := 0) rfl rfl rfl rfl xX1 xX2 rfl xX3 xX4 rfl okX (by
            refine Rn.of (me := me90) rfl ⟨Nat.le_of_ble_eq_true rfl, rfl⟩ rfl ?_
            refine Ex.steps 7 (S' := (11, [.int 2, .int 0, .int x1], [(0, .ref 0), (1, .int x1)], hX, 0, 0)) rfl ?_
            refine Ex.call0 (as := [.int x1, .int 0, .int 2]) (rest := []) (r := (some (.int 1))) (c1 := 0) (s1 := 0) rfl rfl rfl rfl (by
              refine Rn.of (me := me12) rfl ⟨Nat.le_of_ble_eq_true rfl, rfl⟩ rfl ?_
              refine Ex.steps 2 (S' := (2, [.int 0, .int x1], [(0, .int x1), (1, .int 0), (2, .int 2)], [], 0, 0)) rfl ?_
              refine Ex.icmp rfl (cF_lt h1) rfl ?_
              refine Ex.steps 2 (S' := (7, [.int 2, .int x1], [(0, .int x1), (1, .int 0), (2, .int 2)], [], 0, 0)) rfl ?_
              refine Ex.icmp rfl (cF_gt h2) rfl ?_
              refine Ex.steps 2 (S' := (15, [.int 1], [(0, .int x1), (1, .int 0), (2, .int 2)], [], 0, 0)) rfl ?_
              exact Ex.ret rfl rfl) ?_
            refine Ex.steps 0 (S' := (14, [.int 1], [(0, .ref 0), (1, .int x1)], hX, 0, 0)) rfl ?_
            exact Ex.ret rfl rfl) ?_
          refine Ex.steps 0 (S' := (5, [.int 1], [(0, .ref 0), (1, .int x1), (2, .int x2), (3, .int x3)], hX, 0, 0)) rfl ?_
          refine Ex.steps 1 (S' := (8, [], [(0, .ref 0), (1, .int x1), (2, .int x2), (3, .int x3)], hX, 0, 0)) rfl ?_
          refine Ex.steps 3 (S' := (13, [.int 1000000, .int (-1000000), .int x2], [(0, .ref 0), (1, .int x1), (2, .int x2), (3, .int x3)], hX, 0, 0)) rfl ?_
          refine Ex.call0 (as := [.int x2, .int (-1000000), .int 1000000]) (rest := []) (r := (some (.int 0))) (c1 := 0) (s1 := 0) rfl rfl rfl rfl (by
            refine Rn.of (me := me12) rfl ⟨Nat.le_of_ble_eq_true rfl, rfl⟩ rfl ?_
            refine Ex.steps 2 (S' := (2, [.int (-1000000), .int x2], [(0, .int x2), (1, .int (-1000000)), (2, .int 1000000)], [], 0, 0)) rfl ?_
            refine Ex.icmp rfl (cT_lt h3) rfl ?_
            refine Ex.steps 1 (S' := (15, [.int 0], [(0, .int x2), (1, .int (-1000000)), (2, .int 1000000)], [], 0, 0)) rfl ?_
            exact Ex.ret rfl rfl) ?_
          refine Ex.steps 0 (S' := (16, [.int 0], [(0, .ref 0), (1, .int x1), (2, .int x2), (3, .int x3)], hX, 0, 0)) rfl ?_
          refine Ex.steps 1 (S' := (32, [], [(0, .ref 0), (1, .int x1), (2, .int x2), (3, .int x3)], hX, 0, 0)) rfl ?_
          refine Ex.steps 1 (S' := (34, [.int (-2)], [(0, .ref 0), (1, .int x1), (2, .int x2), (3, .int x3)], hX, 0, 0)) rfl ?_
          exact Ex.ret rfl rfl) (by
          refine Rn.of (me := me221) rfl ⟨Nat.le_of_ble_eq_true rfl, rfl⟩ rfl ?_
          refine Ex.steps 2 (S' := (2, [.int x1, .ref 0], [(0, .ref 0), (1, .int x1), (2, .int x2), (3, .int x3)], hM, 0, 0)) rfl ?_
          refine Ex.callX (as := [.int x1]) (rest := []) (r := (some (.int 1))) (c1 := 0) (s1 := 0) rfl rfl rfl rfl xM1 xM2 rfl xM3 xM4 rfl okM (by
            refine Rn.of (me := me173) rfl ⟨Nat.le_of_ble_eq_true rfl, rfl⟩ rfl ?_
            refine Ex.steps 8 (S' := (10, [.int 2, .int 0, .int x1], [(0, .ref 0), (1, .int x1)], hM, 0, 0)) rfl ?_
            refine Ex.call0 (as := [.int x1, .int 0, .int 2]) (rest := []) (r := (some (.int 1))) (c1 := 0) (s1 := 0) rfl rfl rfl rfl (by
              refine Rn.of (me := me145) rfl ⟨Nat.le_of_ble_eq_true rfl, rfl⟩ rfl ?_
              refine Ex.steps 2 (S' := (2, [.int 0, .int x1], [(0, .int x1), (1, .int 0), (2, .int 2)], [], 0, 0)) rfl ?_
              refine Ex.icmp rfl (cF_lt h1) rfl ?_
              refine Ex.steps 2 (S' := (7, [.int 2, .int x1], [(0, .int x1), (1, .int 0), (2, .int 2)], [], 0, 0)) rfl ?_
              refine Ex.icmp rfl (cF_gt h2) rfl ?_
              refine Ex.steps 2 (S' := (15, [.int 1], [(0, .int x1), (1, .int 0), (2, .int 2)], [], 0, 0)) rfl ?_
              exact Ex.ret rfl rfl) ?_
            refine Ex.steps 0 (S' := (13, [.int 1], [(0, .ref 0), (1, .int x1)], hM, 0, 0)) rfl ?_
            exact Ex.ret rfl rfl) ?_
          refine Ex.steps 0 (S' := (5, [.int 1], [(0, .ref 0), (1, .int x1), (2, .int x2), (3, .int x3)], hM, 0, 0)) rfl ?_
          refine Ex.steps 1 (S' := (8, [], [(0, .ref 0), (1, .int x1), (2, .int x2), (3, .int x3)], hM, 0, 0)) rfl ?_
          refine Ex.steps 3 (S' := (13, [.int 1000000, .int (-1000000), .int x2], [(0, .ref 0), (1, .int x1), (2, .int x2), (3, .int x3)], hM, 0, 0)) rfl ?_
          refine Ex.call0 (as := [.int x2, .int (-1000000), .int 1000000]) (rest := []) (r := (some (.int 0))) (c1 := 0) (s1 := 0) rfl rfl rfl rfl (by
            refine Rn.of (me := me145) rfl ⟨Nat.le_of_ble_eq_true rfl, rfl⟩ rfl ?_
            refine Ex.steps 2 (S' := (2, [.int (-1000000), .int x2], [(0, .int x2), (1, .int (-1000000)), (2, .int 1000000)], [], 0, 0)) rfl ?_
            refine Ex.icmp rfl (cT_lt h3) rfl ?_
            refine Ex.steps 1 (S' := (15, [.int 0], [(0, .int x2), (1, .int (-1000000)), (2, .int 1000000)], [], 0, 0)) rfl ?_
            exact Ex.ret rfl rfl) ?_
          refine Ex.steps 0 (S' := (16, [.int 0], [(0, .ref 0), (1, .int x1), (2, .int x2), (3, .int x3)], hM, 0, 0)) rfl ?_
          refine Ex.steps 1 (S' := (32, [], [(0, .ref 0), (1, .int x1), (2, .int x2), (3, .int x3)], hM, 0, 0)) rfl ?_
          refine Ex.steps 1 (S' := (34, [.int (-2)], [(0, .ref 0), (1, .int x1), (2, .int x2), (3, .int x3)], hM, 0, 0)) rfl ?_
          exact Ex.ret rfl rfl) (by decide)
      ·
        by_cases h4 : (1000000 : Int32) < x2
        ·
          exact mkI (x := (-2)) (c1 := 0) (s1 := 0) (c2 := 0) (s2 := 0) (by
            refine Rn.of (me := me128) rfl ⟨Nat.le_of_ble_eq_true rfl, rfl⟩ rfl ?_
            refine Ex.steps 2 (S' := (2, [.int x1, .ref 0], [(0, .ref 0), (1, .int x1), (2, .int x2), (3, .int x3)], hX, 0, 0)) rfl ?_
            refine Ex.callX (as := [.int x1]) (rest := []) (r := (some (.int 1))) (c1 := 0) (s1 := 0) rfl rfl rfl rfl xX1 xX2 rfl xX3 xX4 rfl okX (by
              refine Rn.of (me := me90) rfl ⟨Nat.le_of_ble_eq_true rfl, rfl⟩ rfl ?_
              refine Ex.steps 7 (S' := (11, [.int 2, .int 0, .int x1], [(0, .ref 0), (1, .int x1)], hX, 0, 0)) rfl ?_
              refine Ex.call0 (as := [.int x1, .int 0, .int 2]) (rest := []) (r := (some (.int 1))) (c1 := 0) (s1 := 0) rfl rfl rfl rfl (by
                refine Rn.of (me := me12) rfl ⟨Nat.le_of_ble_eq_true rfl, rfl⟩ rfl ?_
                refine Ex.steps 2 (S' := (2, [.int 0, .int x1], [(0, .int x1), (1, .int 0), (2, .int 2)], [], 0, 0)) rfl ?_
                refine Ex.icmp rfl (cF_lt h1) rfl ?_
                refine Ex.steps 2 (S' := (7, [.int 2, .int x1], [(0, .int x1), (1, .int 0), (2, .int 2)], [], 0, 0)) rfl ?_
                refine Ex.icmp rfl (cF_gt h2) rfl ?_
                refine Ex.steps 2 (S' := (15, [.int 1], [(0, .int x1), (1, .int 0), (2, .int 2)], [], 0, 0)) rfl ?_
                exact Ex.ret rfl rfl) ?_
              refine Ex.steps 0 (S' := (14, [.int 1], [(0, .ref 0), (1, .int x1)], hX, 0, 0)) rfl ?_
              exact Ex.ret rfl rfl) ?_
            refine Ex.steps 0 (S' := (5, [.int 1], [(0, .ref 0), (1, .int x1), (2, .int x2), (3, .int x3)], hX, 0, 0)) rfl ?_
            refine Ex.steps 1 (S' := (8, [], [(0, .ref 0), (1, .int x1), (2, .int x2), (3, .int x3)], hX, 0, 0)) rfl ?_
            refine Ex.steps 3 (S' := (13, [.int 1000000, .int (-1000000), .int x2], [(0, .ref 0), (1, .int x1), (2, .int x2), (3, .int x3)], hX, 0, 0)) rfl ?_
            refine Ex.call0 (as := [.int x2, .int (-1000000), .int 1000000]) (rest := []) (r := (some (.int 0))) (c1 := 0) (s1 := 0) rfl rfl rfl rfl (by
              refine Rn.of (me := me12) rfl ⟨Nat.le_of_ble_eq_true rfl, rfl⟩ rfl ?_
              refine Ex.steps 2 (S' := (2, [.int (-1000000), .int x2], [(0, .int x2), (1, .int (-1000000)), (2, .int 1000000)], [], 0, 0)) rfl ?_
              refine Ex.icmp rfl (cF_lt h3) rfl ?_
              refine Ex.steps 2 (S' := (7, [.int 1000000, .int x2], [(0, .int x2), (1, .int (-1000000)), (2, .int 1000000)], [], 0, 0)) rfl ?_
              refine Ex.icmp rfl (cT_gt h4) rfl ?_
              refine Ex.steps 1 (S' := (15, [.int 0], [(0, .int x2), (1, .int (-1000000)), (2, .int 1000000)], [], 0, 0)) rfl ?_
              exact Ex.ret rfl rfl) ?_
            refine Ex.steps 0 (S' := (16, [.int 0], [(0, .ref 0), (1, .int x1), (2, .int x2), (3, .int x3)], hX, 0, 0)) rfl ?_
            refine Ex.steps 1 (S' := (32, [], [(0, .ref 0), (1, .int x1), (2, .int x2), (3, .int x3)], hX, 0, 0)) rfl ?_
            refine Ex.steps 1 (S' := (34, [.int (-2)], [(0, .ref 0), (1, .int x1), (2, .int x2), (3, .int x3)], hX, 0, 0)) rfl ?_
            exact Ex.ret rfl rfl) (by
            refine Rn.of (me := me221) rfl ⟨Nat.le_of_ble_eq_true rfl, rfl⟩ rfl ?_
            refine Ex.steps 2 (S' := (2, [.int x1, .ref 0], [(0, .ref 0), (1, .int x1), (2, .int x2), (3, .int x3)], hM, 0, 0)) rfl ?_
            refine Ex.callX (as := [.int x1]) (rest := []) (r := (some (.int 1))) (c1 := 0) (s1 := 0) rfl rfl rfl rfl xM1 xM2 rfl xM3 xM4 rfl okM (by
              refine Rn.of (me := me173) rfl ⟨Nat.le_of_ble_eq_true rfl, rfl⟩ rfl ?_
              refine Ex.steps 8 (S' := (10, [.int 2, .int 0, .int x1], [(0, .ref 0), (1, .int x1)], hM, 0, 0)) rfl ?_
              refine Ex.call0 (as := [.int x1, .int 0, .int 2]) (rest := []) (r := (some (.int 1))) (c1 := 0) (s1 := 0) rfl rfl rfl rfl (by
                refine Rn.of (me := me145) rfl ⟨Nat.le_of_ble_eq_true rfl, rfl⟩ rfl ?_
                refine Ex.steps 2 (S' := (2, [.int 0, .int x1], [(0, .int x1), (1, .int 0), (2, .int 2)], [], 0, 0)) rfl ?_
                refine Ex.icmp rfl (cF_lt h1) rfl ?_
                refine Ex.steps 2 (S' := (7, [.int 2, .int x1], [(0, .int x1), (1, .int 0), (2, .int 2)], [], 0, 0)) rfl ?_
                refine Ex.icmp rfl (cF_gt h2) rfl ?_
                refine Ex.steps 2 (S' := (15, [.int 1], [(0, .int x1), (1, .int 0), (2, .int 2)], [], 0, 0)) rfl ?_
                exact Ex.ret rfl rfl) ?_
              refine Ex.steps 0 (S' := (13, [.int 1], [(0, .ref 0), (1, .int x1)], hM, 0, 0)) rfl ?_
              exact Ex.ret rfl rfl) ?_
            refine Ex.steps 0 (S' := (5, [.int 1], [(0, .ref 0), (1, .int x1), (2, .int x2), (3, .int x3)], hM, 0, 0)) rfl ?_
            refine Ex.steps 1 (S' := (8, [], [(0, .ref 0), (1, .int x1), (2, .int x2), (3, .int x3)], hM, 0, 0)) rfl ?_
            refine Ex.steps 3 (S' := (13, [.int 1000000, .int (-1000000), .int x2], [(0, .ref 0), (1, .int x1), (2, .int x2), (3, .int x3)], hM, 0, 0)) rfl ?_
            refine Ex.call0 (as := [.int x2, .int (-1000000), .int 1000000]) (rest := []) (r := (some (.int 0))) (c1 := 0) (s1 := 0) rfl rfl rfl rfl (by
              refine Rn.of (me := me145) rfl ⟨Nat.le_of_ble_eq_true rfl, rfl⟩ rfl ?_
              refine Ex.steps 2 (S' := (2, [.int (-1000000), .int x2], [(0, .int x2), (1, .int (-1000000)), (2, .int 1000000)], [], 0, 0)) rfl ?_
              refine Ex.icmp rfl (cF_lt h3) rfl ?_
              refine Ex.steps 2 (S' := (7, [.int 1000000, .int x2], [(0, .int x2), (1, .int (-1000000)), (2, .int 1000000)], [], 0, 0)) rfl ?_
              refine Ex.icmp rfl (cT_gt h4) rfl ?_
              refine Ex.steps 1 (S' := (15, [.int 0], [(0, .int x2), (1, .int (-1000000)), (2, .int 1000000)], [], 0, 0)) rfl ?_
              exact Ex.ret rfl rfl) ?_
            refine Ex.steps 0 (S' := (16, [.int 0], [(0, .ref 0), (1, .int x1), (2, .int x2), (3, .int x3)], hM, 0, 0)) rfl ?_
            refine Ex.steps 1 (S' := (32, [], [(0, .ref 0), (1, .int x1), (2, .int x2), (3, .int x3)], hM, 0, 0)) rfl ?_
            refine Ex.steps 1 (S' := (34, [.int (-2)], [(0, .ref 0), (1, .int x1), (2, .int x2), (3, .int x3)], hM, 0, 0)) rfl ?_
            exact Ex.ret rfl rfl) (by decide)
        ·
          by_cases h5 : (x3 : Int32) < (-1000)
          ·
            exact mkI (x := (-2)) (c1 := 0) (s1 := 0) (c2 := 0) (s2 := 0) (by
              refine Rn.of (me := me128) rfl ⟨Nat.le_of_ble_eq_true rfl, rfl⟩ rfl ?_
              refine Ex.steps 2 (S' := (2, [.int x1, .ref 0], [(0, .ref 0), (1, .int x1), (2, .int x2), (3, .int x3)], hX, 0, 0)) rfl ?_
              refine Ex.callX (as := [.int x1]) (rest := []) (r := (some (.int 1))) (c1 := 0) (s1 := 0) rfl rfl rfl rfl xX1 xX2 rfl xX3 xX4 rfl okX (by
                refine Rn.of (me := me90) rfl ⟨Nat.le_of_ble_eq_true rfl, rfl⟩ rfl ?_
                refine Ex.steps 7 (S' := (11, [.int 2, .int 0, .int x1], [(0, .ref 0), (1, .int x1)], hX, 0, 0)) rfl ?_
                refine Ex.call0 (as := [.int x1, .int 0, .int 2]) (rest := []) (r := (some (.int 1))) (c1 := 0) (s1 := 0) rfl rfl rfl rfl (by
                  refine Rn.of (me := me12) rfl ⟨Nat.le_of_ble_eq_true rfl, rfl⟩ rfl ?_
                  refine Ex.steps 2 (S' := (2, [.int 0, .int x1], [(0, .int x1), (1, .int 0), (2, .int 2)], [], 0, 0)) rfl ?_
                  refine Ex.icmp rfl (cF_lt h1) rfl ?_
                  refine Ex.steps 2 (S' := (7, [.int 2, .int x1], [(0, .int x1), (1, .int 0), (2, .int 2)], [], 0, 0)) rfl ?_
                  refine Ex.icmp rfl (cF_gt h2) rfl ?_
                  refine Ex.steps 2 (S' := (15, [.int 1], [(0, .int x1), (1, .int 0), (2, .int 2)], [], 0, 0)) rfl ?_
                  exact Ex.ret rfl rfl) ?_
                refine Ex.steps 0 (S' := (14, [.int 1], [(0, .ref 0), (1, .int x1)], hX, 0, 0)) rfl ?_
                exact Ex.ret rfl rfl) ?_
              refine Ex.steps 0 (S' := (5, [.int 1], [(0, .ref 0), (1, .int x1), (2, .int x2), (3, .int x3)], hX, 0, 0)) rfl ?_
              refine Ex.steps 1 (S' := (8, [], [(0, .ref 0), (1, .int x1), (2, .int x2), (3, .int x3)], hX, 0, 0)) rfl ?_
              refine Ex.steps 3 (S' := (13, [.int 1000000, .int (-1000000), .int x2], [(0, .ref 0), (1, .int x1), (2, .int x2), (3, .int x3)], hX, 0, 0)) rfl ?_
              refine Ex.call0 (as := [.int x2, .int (-1000000), .int 1000000]) (rest := []) (r := (some (.int 1))) (c1 := 0) (s1 := 0) rfl rfl rfl rfl (by
                refine Rn.of (me := me12) rfl ⟨Nat.le_of_ble_eq_true rfl, rfl⟩ rfl ?_
                refine Ex.steps 2 (S' := (2, [.int (-1000000), .int x2], [(0, .int x2), (1, .int (-1000000)), (2, .int 1000000)], [], 0, 0)) rfl ?_
                refine Ex.icmp rfl (cF_lt h3) rfl ?_
                refine Ex.steps 2 (S' := (7, [.int 1000000, .int x2], [(0, .int x2), (1, .int (-1000000)), (2, .int 1000000)], [], 0, 0)) rfl ?_
                refine Ex.icmp rfl (cF_gt h4) rfl ?_
                refine Ex.steps 2 (S' := (15, [.int 1], [(0, .int x2), (1, .int (-1000000)), (2, .int 1000000)], [], 0, 0)) rfl ?_
                exact Ex.ret rfl rfl) ?_
              refine Ex.steps 0 (S' := (16, [.int 1], [(0, .ref 0), (1, .int x1), (2, .int x2), (3, .int x3)], hX, 0, 0)) rfl ?_
              refine Ex.steps 1 (S' := (19, [], [(0, .ref 0), (1, .int x1), (2, .int x2), (3, .int x3)], hX, 0, 0)) rfl ?_
              refine Ex.steps 3 (S' := (26, [.int 1000, .int (-1000), .int x3], [(0, .ref 0), (1, .int x1), (2, .int x2), (3, .int x3)], hX, 0, 0)) rfl ?_
              refine Ex.call0 (as := [.int x3, .int (-1000), .int 1000]) (rest := []) (r := (some (.int 0))) (c1 := 0) (s1 := 0) rfl rfl rfl rfl (by
                refine Rn.of (me := me12) rfl ⟨Nat.le_of_ble_eq_true rfl, rfl⟩ rfl ?_
                refine Ex.steps 2 (S' := (2, [.int (-1000), .int x3], [(0, .int x3), (1, .int (-1000)), (2, .int 1000)], [], 0, 0)) rfl ?_
                refine Ex.icmp rfl (cT_lt h5) rfl ?_
                refine Ex.steps 1 (S' := (15, [.int 0], [(0, .int x3), (1, .int (-1000)), (2, .int 1000)], [], 0, 0)) rfl ?_
                exact Ex.ret rfl rfl) ?_
              refine Ex.steps 0 (S' := (29, [.int 0], [(0, .ref 0), (1, .int x1), (2, .int x2), (3, .int x3)], hX, 0, 0)) rfl ?_
              refine Ex.steps 1 (S' := (32, [], [(0, .ref 0), (1, .int x1), (2, .int x2), (3, .int x3)], hX, 0, 0)) rfl ?_
              refine Ex.steps 1 (S' := (34, [.int (-2)], [(0, .ref 0), (1, .int x1), (2, .int x2), (3, .int x3)], hX, 0, 0)) rfl ?_
              exact Ex.ret rfl rfl) (by
              refine Rn.of (me := me221) rfl ⟨Nat.le_of_ble_eq_true rfl, rfl⟩ rfl ?_
              refine Ex.steps 2 (S' := (2, [.int x1, .ref 0], [(0, .ref 0), (1, .int x1), (2, .int x2), (3, .int x3)], hM, 0, 0)) rfl ?_
              refine Ex.callX (as := [.int x1]) (rest := []) (r := (some (.int 1))) (c1 := 0) (s1 := 0) rfl rfl rfl rfl xM1 xM2 rfl xM3 xM4 rfl okM (by
                refine Rn.of (me := me173) rfl ⟨Nat.le_of_ble_eq_true rfl, rfl⟩ rfl ?_
                refine Ex.steps 8 (S' := (10, [.int 2, .int 0, .int x1], [(0, .ref 0), (1, .int x1)], hM, 0, 0)) rfl ?_
                refine Ex.call0 (as := [.int x1, .int 0, .int 2]) (rest := []) (r := (some (.int 1))) (c1 := 0) (s1 := 0) rfl rfl rfl rfl (by
                  refine Rn.of (me := me145) rfl ⟨Nat.le_of_ble_eq_true rfl, rfl⟩ rfl ?_
                  refine Ex.steps 2 (S' := (2, [.int 0, .int x1], [(0, .int x1), (1, .int 0), (2, .int 2)], [], 0, 0)) rfl ?_
                  refine Ex.icmp rfl (cF_lt h1) rfl ?_
                  refine Ex.steps 2 (S' := (7, [.int 2, .int x1], [(0, .int x1), (1, .int 0), (2, .int 2)], [], 0, 0)) rfl ?_
                  refine Ex.icmp rfl (cF_gt h2) rfl ?_
                  refine Ex.steps 2 (S' := (15, [.int 1], [(0, .int x1), (1, .int 0), (2, .int 2)], [], 0, 0)) rfl ?_
                  exact Ex.ret rfl rfl) ?_
                refine Ex.steps 0 (S' := (13, [.int 1], [(0, .ref 0), (1, .int x1)], hM, 0, 0)) rfl ?_
                exact Ex.ret rfl rfl) ?_
              refine Ex.steps 0 (S' := (5, [.int 1], [(0, .ref 0), (1, .int x1), (2, .int x2), (3, .int x3)], hM, 0, 0)) rfl ?_
              refine Ex.steps 1 (S' := (8, [], [(0, .ref 0), (1, .int x1), (2, .int x2), (3, .int x3)], hM, 0, 0)) rfl ?_
              refine Ex.steps 3 (S' := (13, [.int 1000000, .int (-1000000), .int x2], [(0, .ref 0), (1, .int x1), (2, .int x2), (3, .int x3)], hM, 0, 0)) rfl ?_
              refine Ex.call0 (as := [.int x2, .int (-1000000), .int 1000000]) (rest := []) (r := (some (.int 1))) (c1 := 0) (s1 := 0) rfl rfl rfl rfl (by
                refine Rn.of (me := me145) rfl ⟨Nat.le_of_ble_eq_true rfl, rfl⟩ rfl ?_
                refine Ex.steps 2 (S' := (2, [.int (-1000000), .int x2], [(0, .int x2), (1, .int (-1000000)), (2, .int 1000000)], [], 0, 0)) rfl ?_
                refine Ex.icmp rfl (cF_lt h3) rfl ?_
                refine Ex.steps 2 (S' := (7, [.int 1000000, .int x2], [(0, .int x2), (1, .int (-1000000)), (2, .int 1000000)], [], 0, 0)) rfl ?_
                refine Ex.icmp rfl (cF_gt h4) rfl ?_
                refine Ex.steps 2 (S' := (15, [.int 1], [(0, .int x2), (1, .int (-1000000)), (2, .int 1000000)], [], 0, 0)) rfl ?_
                exact Ex.ret rfl rfl) ?_
              refine Ex.steps 0 (S' := (16, [.int 1], [(0, .ref 0), (1, .int x1), (2, .int x2), (3, .int x3)], hM, 0, 0)) rfl ?_
              refine Ex.steps 1 (S' := (19, [], [(0, .ref 0), (1, .int x1), (2, .int x2), (3, .int x3)], hM, 0, 0)) rfl ?_
              refine Ex.steps 3 (S' := (26, [.int 1000, .int (-1000), .int x3], [(0, .ref 0), (1, .int x1), (2, .int x2), (3, .int x3)], hM, 0, 0)) rfl ?_
              refine Ex.call0 (as := [.int x3, .int (-1000), .int 1000]) (rest := []) (r := (some (.int 0))) (c1 := 0) (s1 := 0) rfl rfl rfl rfl (by
                refine Rn.of (me := me145) rfl ⟨Nat.le_of_ble_eq_true rfl, rfl⟩ rfl ?_
                refine Ex.steps 2 (S' := (2, [.int (-1000), .int x3], [(0, .int x3), (1, .int (-1000)), (2, .int 1000)], [], 0, 0)) rfl ?_
                refine Ex.icmp rfl (cT_lt h5) rfl ?_
                refine Ex.steps 1 (S' := (15, [.int 0], [(0, .int x3), (1, .int (-1000)), (2, .int 1000)], [], 0, 0)) rfl ?_
                exact Ex.ret rfl rfl) ?_
              refine Ex.steps 0 (S' := (29, [.int 0], [(0, .ref 0), (1, .int x1), (2, .int x2), (3, .int x3)], hM, 0, 0)) rfl ?_
              refine Ex.steps 1 (S' := (32, [], [(0, .ref 0), (1, .int x1), (2, .int x2), (3, .int x3)], hM, 0, 0)) rfl ?_
              refine Ex.steps 1 (S' := (34, [.int (-2)], [(0, .ref 0), (1, .int x1), (2, .int x2), (3, .int x3)], hM, 0, 0)) rfl ?_
              exact Ex.ret rfl rfl) (by decide)
          ·
            by_cases h6 : (1000 : Int32) < x3
            ·
              exact mkI (x := (-2)) (c1 := 0) (s1 := 0) (c2 := 0) (s2 := 0) (by
                refine Rn.of (me := me128) rfl ⟨Nat.le_of_ble_eq_true rfl, rfl⟩ rfl ?_
                refine Ex.steps 2 (S' := (2, [.int x1, .ref 0], [(0, .ref 0), (1, .int x1), (2, .int x2), (3, .int x3)], hX, 0, 0)) rfl ?_
                refine Ex.callX (as := [.int x1]) (rest := []) (r := (some (.int 1))) (c1 := 0) (s1 := 0) rfl rfl rfl rfl xX1 xX2 rfl xX3 xX4 rfl okX (by
                  refine Rn.of (me := me90) rfl ⟨Nat.le_of_ble_eq_true rfl, rfl⟩ rfl ?_
                  refine Ex.steps 7 (S' := (11, [.int 2, .int 0, .int x1], [(0, .ref 0), (1, .int x1)], hX, 0, 0)) rfl ?_
                  refine Ex.call0 (as := [.int x1, .int 0, .int 2]) (rest := []) (r := (some (.int 1))) (c1 := 0) (s1 := 0) rfl rfl rfl rfl (by
                    refine Rn.of (me := me12) rfl ⟨Nat.le_of_ble_eq_true rfl, rfl⟩ rfl ?_
                    refine Ex.steps 2 (S' := (2, [.int 0, .int x1], [(0, .int x1), (1, .int 0), (2, .int 2)], [], 0, 0)) rfl ?_
                    refine Ex.icmp rfl (cF_lt h1) rfl ?_
                    refine Ex.steps 2 (S' := (7, [.int 2, .int x1], [(0, .int x1), (1, .int 0), (2, .int 2)], [], 0, 0)) rfl ?_
                    refine Ex.icmp rfl (cF_gt h2) rfl ?_
                    refine Ex.steps 2 (S' := (15, [.int 1], [(0, .int x1), (1, .int 0), (2, .int 2)], [], 0, 0)) rfl ?_
                    exact Ex.ret rfl rfl) ?_
                  refine Ex.steps 0 (S' := (14, [.int 1], [(0, .ref 0), (1, .int x1)], hX, 0, 0)) rfl ?_
                  exact Ex.ret rfl rfl) ?_
                refine Ex.steps 0 (S' := (5, [.int 1], [(0, .ref 0), (1, .int x1), (2, .int x2), (3, .int x3)], hX, 0, 0)) rfl ?_
                refine Ex.steps 1 (S' := (8, [], [(0, .ref 0), (1, .int x1), (2, .int x2), (3, .int x3)], hX, 0, 0)) rfl ?_
                refine Ex.steps 3 (S' := (13, [.int 1000000, .int (-1000000), .int x2], [(0, .ref 0), (1, .int x1), (2, .int x2), (3, .int x3)], hX, 0, 0)) rfl ?_
                refine Ex.call0 (as := [.int x2, .int (-1000000), .int 1000000]) (rest := []) (r := (some (.int 1))) (c1 := 0) (s1 := 0) rfl rfl rfl rfl (by
                  refine Rn.of (me := me12) rfl ⟨Nat.le_of_ble_eq_true rfl, rfl⟩ rfl ?_
                  refine Ex.steps 2 (S' := (2, [.int (-1000000), .int x2], [(0, .int x2), (1, .int (-1000000)), (2, .int 1000000)], [], 0, 0)) rfl ?_
                  refine Ex.icmp rfl (cF_lt h3) rfl ?_
                  refine Ex.steps 2 (S' := (7, [.int 1000000, .int x2], [(0, .int x2), (1, .int (-1000000)), (2, .int 1000000)], [], 0, 0)) rfl ?_
                  refine Ex.icmp rfl (cF_gt h4) rfl ?_
                  refine Ex.steps 2 (S' := (15, [.int 1], [(0, .int x2), (1, .int (-1000000)), (2, .int 1000000)], [], 0, 0)) rfl ?_
                  exact Ex.ret rfl rfl) ?_
                refine Ex.steps 0 (S' := (16, [.int 1], [(0, .ref 0), (1, .int x1), (2, .int x2), (3, .int x3)], hX, 0, 0)) rfl ?_
                refine Ex.steps 1 (S' := (19, [], [(0, .ref 0), (1, .int x1), (2, .int x2), (3, .int x3)], hX, 0, 0)) rfl ?_
                refine Ex.steps 3 (S' := (26, [.int 1000, .int (-1000), .int x3], [(0, .ref 0), (1, .int x1), (2, .int x2), (3, .int x3)], hX, 0, 0)) rfl ?_
                refine Ex.call0 (as := [.int x3, .int (-1000), .int 1000]) (rest := []) (r := (some (.int 0))) (c1 := 0) (s1 := 0) rfl rfl rfl rfl (by
                  refine Rn.of (me := me12) rfl ⟨Nat.le_of_ble_eq_true rfl, rfl⟩ rfl ?_
                  refine Ex.steps 2 (S' := (2, [.int (-1000), .int x3], [(0, .int x3), (1, .int (-1000)), (2, .int 1000)], [], 0, 0)) rfl ?_
                  refine Ex.icmp rfl (cF_lt h5) rfl ?_
                  refine Ex.steps 2 (S' := (7, [.int 1000, .int x3], [(0, .int x3), (1, .int (-1000)), (2, .int 1000)], [], 0, 0)) rfl ?_
                  refine Ex.icmp rfl (cT_gt h6) rfl ?_
                  refine Ex.steps 1 (S' := (15, [.int 0], [(0, .int x3), (1, .int (-1000)), (2, .int 1000)], [], 0, 0)) rfl ?_
                  exact Ex.ret rfl rfl) ?_
                refine Ex.steps 0 (S' := (29, [.int 0], [(0, .ref 0), (1, .int x1), (2, .int x2), (3, .int x3)], hX, 0, 0)) rfl ?_
                refine Ex.steps 1 (S' := (32, [], [(0, .ref 0), (1, .int x1), (2, .int x2), (3, .int x3)], hX, 0, 0)) rfl ?_
                refine Ex.steps 1 (S' := (34, [.int (-2)], [(0, .ref 0), (1, .int x1), (2, .int x2), (3, .int x3)], hX, 0, 0)) rfl ?_
                exact Ex.ret rfl rfl) (by
                refine Rn.of (me := me221) rfl ⟨Nat.le_of_ble_eq_true rfl, rfl⟩ rfl ?_
                refine Ex.steps 2 (S' := (2, [.int x1, .ref 0], [(0, .ref 0), (1, .int x1), (2, .int x2), (3, .int x3)], hM, 0, 0)) rfl ?_
                refine Ex.callX (as := [.int x1]) (rest := []) (r := (some (.int 1))) (c1 := 0) (s1 := 0) rfl rfl rfl rfl xM1 xM2 rfl xM3 xM4 rfl okM (by
                  refine Rn.of (me := me173) rfl ⟨Nat.le_of_ble_eq_true rfl, rfl⟩ rfl ?_
                  refine Ex.steps 8 (S' := (10, [.int 2, .int 0, .int x1], [(0, .ref 0), (1, .int x1)], hM, 0, 0)) rfl ?_
                  refine Ex.call0 (as := [.int x1, .int 0, .int 2]) (rest := []) (r := (some (.int 1))) (c1 := 0) (s1 := 0) rfl rfl rfl rfl (by
                    refine Rn.of (me := me145) rfl ⟨Nat.le_of_ble_eq_true rfl, rfl⟩ rfl ?_
                    refine Ex.steps 2 (S' := (2, [.int 0, .int x1], [(0, .int x1), (1, .int 0), (2, .int 2)], [], 0, 0)) rfl ?_
                    refine Ex.icmp rfl (cF_lt h1) rfl ?_
                    refine Ex.steps 2 (S' := (7, [.int 2, .int x1], [(0, .int x1), (1, .int 0), (2, .int 2)], [], 0, 0)) rfl ?_
                    refine Ex.icmp rfl (cF_gt h2) rfl ?_
                    refine Ex.steps 2 (S' := (15, [.int 1], [(0, .int x1), (1, .int 0), (2, .int 2)], [], 0, 0)) rfl ?_
                    exact Ex.ret rfl rfl) ?_
                  refine Ex.steps 0 (S' := (13, [.int 1], [(0, .ref 0), (1, .int x1)], hM, 0, 0)) rfl ?_
                  exact Ex.ret rfl rfl) ?_
                refine Ex.steps 0 (S' := (5, [.int 1], [(0, .ref 0), (1, .int x1), (2, .int x2), (3, .int x3)], hM, 0, 0)) rfl ?_
                refine Ex.steps 1 (S' := (8, [], [(0, .ref 0), (1, .int x1), (2, .int x2), (3, .int x3)], hM, 0, 0)) rfl ?_
                refine Ex.steps 3 (S' := (13, [.int 1000000, .int (-1000000), .int x2], [(0, .ref 0), (1, .int x1), (2, .int x2), (3, .int x3)], hM, 0, 0)) rfl ?_
                refine Ex.call0 (as := [.int x2, .int (-1000000), .int 1000000]) (rest := []) (r := (some (.int 1))) (c1 := 0) (s1 := 0) rfl rfl rfl rfl (by
                  refine Rn.of (me := me145) rfl ⟨Nat.le_of_ble_eq_true rfl, rfl⟩ rfl ?_
                  refine Ex.steps 2 (S' := (2, [.int (-1000000), .int x2], [(0, .int x2), (1, .int (-1000000)), (2, .int 1000000)], [], 0, 0)) rfl ?_
                  refine Ex.icmp rfl (cF_lt h3) rfl ?_
                  refine Ex.steps 2 (S' := (7, [.int 1000000, .int x2], [(0, .int x2), (1, .int (-1000000)), (2, .int 1000000)], [], 0, 0)) rfl ?_
                  refine Ex.icmp rfl (cF_gt h4) rfl ?_
                  refine Ex.steps 2 (S' := (15, [.int 1], [(0, .int x2), (1, .int (-1000000)), (2, .int 1000000)], [], 0, 0)) rfl ?_
                  exact Ex.ret rfl rfl) ?_
                refine Ex.steps 0 (S' := (16, [.int 1], [(0, .ref 0), (1, .int x1), (2, .int x2), (3, .int x3)], hM, 0, 0)) rfl ?_
                refine Ex.steps 1 (S' := (19, [], [(0, .ref 0), (1, .int x1), (2, .int x2), (3, .int x3)], hM, 0, 0)) rfl ?_
                refine Ex.steps 3 (S' := (26, [.int 1000, .int (-1000), .int x3], [(0, .ref 0), (1, .int x1), (2, .int x2), (3, .int x3)], hM, 0, 0)) rfl ?_
                refine Ex.call0 (as := [.int x3, .int (-1000), .int 1000]) (rest := []) (r := (some (.int 0))) (c1 := 0) (s1 := 0) rfl rfl rfl rfl (by
                  refine Rn.of (me := me145) rfl ⟨Nat.le_of_ble_eq_true rfl, rfl⟩ rfl ?_
                  refine Ex.steps 2 (S' := (2, [.int (-1000), .int x3], [(0, .int x3), (1, .int (-1000)), (2, .int 1000)], [], 0, 0)) rfl ?_
                  refine Ex.icmp rfl (cF_lt h5) rfl ?_
                  refine Ex.steps 2 (S' := (7, [.int 1000, .int x3], [(0, .int x3), (1, .int (-1000)), (2, .int 1000)], [], 0, 0)) rfl ?_
                  refine Ex.icmp rfl (cT_gt h6) rfl ?_
                  refine Ex.steps 1 (S' := (15, [.int 0], [(0, .int x3), (1, .int (-1000)), (2, .int 1000)], [], 0, 0)) rfl ?_
                  exact Ex.ret rfl rfl) ?_
                refine Ex.steps 0 (S' := (29, [.int 0], [(0, .ref 0), (1, .int x1), (2, .int x2), (3, .int x3)], hM, 0, 0)) rfl ?_
                refine Ex.steps 1 (S' := (32, [], [(0, .ref 0), (1, .int x1), (2, .int x2), (3, .int x3)], hM, 0, 0)) rfl ?_
                refine Ex.steps 1 (S' := (34, [.int (-2)], [(0, .ref 0), (1, .int x1), (2, .int x2), (3, .int x3)], hM, 0, 0)) rfl ?_
                exact Ex.ret rfl rfl) (by decide)
            ·
              obtain ⟨k7, hkk7, rfl⟩ := en_b (x := x1) (n := 2) (by decide) h1 h2
              match k7, hkk7 with
              | 0, _ =>
                show BothI 128 221 [.int 0, .int x2, .int x3]
                exact mkI (x := 1) (c1 := 0) (s1 := 0) (c2 := 0) (s2 := 0) (by
                  refine Rn.of (me := me128) rfl ⟨Nat.le_of_ble_eq_true rfl, rfl⟩ rfl ?_
                  refine Ex.steps 2 (S' := (2, [.int 0, .ref 0], [(0, .ref 0), (1, .int 0), (2, .int x2), (3, .int x3)], hX, 0, 0)) rfl ?_
                  refine Ex.callX (as := [.int 0]) (rest := []) (r := (some (.int 1))) (c1 := 0) (s1 := 0) rfl rfl rfl rfl xX1 xX2 rfl xX3 xX4 rfl okX (by
                    refine Rn.of (me := me90) rfl ⟨Nat.le_of_ble_eq_true rfl, rfl⟩ rfl ?_
                    refine Ex.steps 7 (S' := (11, [.int 2, .int 0, .int 0], [(0, .ref 0), (1, .int 0)], hX, 0, 0)) rfl ?_
                    refine Ex.call0 (as := [.int 0, .int 0, .int 2]) (rest := []) (r := (some (.int 1))) (c1 := 0) (s1 := 0) rfl rfl rfl rfl (by
                      refine Rn.of (me := me12) rfl ⟨Nat.le_of_ble_eq_true rfl, rfl⟩ rfl ?_
                      refine Ex.steps 2 (S' := (2, [.int 0, .int 0], [(0, .int 0), (1, .int 0), (2, .int 2)], [], 0, 0)) rfl ?_
                      refine Ex.steps 1 (S' := (5, [], [(0, .int 0), (1, .int 0), (2, .int 2)], [], 0, 0)) rfl ?_
                      refine Ex.steps 2 (S' := (7, [.int 2, .int 0], [(0, .int 0), (1, .int 0), (2, .int 2)], [], 0, 0)) rfl ?_
                      refine Ex.steps 1 (S' := (10, [], [(0, .int 0), (1, .int 0), (2, .int 2)], [], 0, 0)) rfl ?_
                      refine Ex.steps 2 (S' := (15, [.int 1], [(0, .int 0), (1, .int 0), (2, .int 2)], [], 0, 0)) rfl ?_
                      exact Ex.ret rfl rfl) ?_
                    refine Ex.steps 0 (S' := (14, [.int 1], [(0, .ref 0), (1, .int 0)], hX, 0, 0)) rfl ?_
                    exact Ex.ret rfl rfl) ?_
                  refine Ex.steps 0 (S' := (5, [.int 1], [(0, .ref 0), (1, .int 0), (2, .int x2), (3, .int x3)], hX, 0, 0)) rfl ?_
                  refine Ex.steps 1 (S' := (8, [], [(0, .ref 0), (1, .int 0), (2, .int x2), (3, .int x3)], hX, 0, 0)) rfl ?_
                  refine Ex.steps 3 (S' := (13, [.int 1000000, .int (-1000000), .int x2], [(0, .ref 0), (1, .int 0), (2, .int x2), (3, .int x3)], hX, 0, 0)) rfl ?_
                  refine Ex.call0 (as := [.int x2, .int (-1000000), .int 1000000]) (rest := []) (r := (some (.int 1))) (c1 := 0) (s1 := 0) rfl rfl rfl rfl (by
                    refine Rn.of (me := me12) rfl ⟨Nat.le_of_ble_eq_true rfl, rfl⟩ rfl ?_
                    refine Ex.steps 2 (S' := (2, [.int (-1000000), .int x2], [(0, .int x2), (1, .int (-1000000)), (2, .int 1000000)], [], 0, 0)) rfl ?_
                    refine Ex.icmp rfl (cF_lt h3) rfl ?_
                    refine Ex.steps 2 (S' := (7, [.int 1000000, .int x2], [(0, .int x2), (1, .int (-1000000)), (2, .int 1000000)], [], 0, 0)) rfl ?_
                    refine Ex.icmp rfl (cF_gt h4) rfl ?_
                    refine Ex.steps 2 (S' := (15, [.int 1], [(0, .int x2), (1, .int (-1000000)), (2, .int 1000000)], [], 0, 0)) rfl ?_
                    exact Ex.ret rfl rfl) ?_
                  refine Ex.steps 0 (S' := (16, [.int 1], [(0, .ref 0), (1, .int 0), (2, .int x2), (3, .int x3)], hX, 0, 0)) rfl ?_
                  refine Ex.steps 1 (S' := (19, [], [(0, .ref 0), (1, .int 0), (2, .int x2), (3, .int x3)], hX, 0, 0)) rfl ?_
                  refine Ex.steps 3 (S' := (26, [.int 1000, .int (-1000), .int x3], [(0, .ref 0), (1, .int 0), (2, .int x2), (3, .int x3)], hX, 0, 0)) rfl ?_
                  refine Ex.call0 (as := [.int x3, .int (-1000), .int 1000]) (rest := []) (r := (some (.int 1))) (c1 := 0) (s1 := 0) rfl rfl rfl rfl (by
                    refine Rn.of (me := me12) rfl ⟨Nat.le_of_ble_eq_true rfl, rfl⟩ rfl ?_
                    refine Ex.steps 2 (S' := (2, [.int (-1000), .int x3], [(0, .int x3), (1, .int (-1000)), (2, .int 1000)], [], 0, 0)) rfl ?_
                    refine Ex.icmp rfl (cF_lt h5) rfl ?_
                    refine Ex.steps 2 (S' := (7, [.int 1000, .int x3], [(0, .int x3), (1, .int (-1000)), (2, .int 1000)], [], 0, 0)) rfl ?_
                    refine Ex.icmp rfl (cF_gt h6) rfl ?_
                    refine Ex.steps 2 (S' := (15, [.int 1], [(0, .int x3), (1, .int (-1000)), (2, .int 1000)], [], 0, 0)) rfl ?_
                    exact Ex.ret rfl rfl) ?_
                  refine Ex.steps 0 (S' := (29, [.int 1], [(0, .ref 0), (1, .int 0), (2, .int x2), (3, .int x3)], hX, 0, 0)) rfl ?_
                  refine Ex.steps 1 (S' := (35, [], [(0, .ref 0), (1, .int 0), (2, .int x2), (3, .int x3)], hX, 0, 0)) rfl ?_
                  refine Ex.steps 13 (S' := (56, [.int 1], [(0, .ref 0), (1, .int 0), (2, .int x2), (3, .int x3)], ((hX.set 39 (.inr (0, .inl ((List.replicate 4 0).set 0 x2)))).set 40 (.inr (0, .inl ((List.replicate 4 0).set 0 x3)))), 0, 0)) rfl ?_
                  exact Ex.ret rfl rfl) (by
                  refine Rn.of (me := me221) rfl ⟨Nat.le_of_ble_eq_true rfl, rfl⟩ rfl ?_
                  refine Ex.steps 2 (S' := (2, [.int 0, .ref 0], [(0, .ref 0), (1, .int 0), (2, .int x2), (3, .int x3)], hM, 0, 0)) rfl ?_
                  refine Ex.callX (as := [.int 0]) (rest := []) (r := (some (.int 1))) (c1 := 0) (s1 := 0) rfl rfl rfl rfl xM1 xM2 rfl xM3 xM4 rfl okM (by
                    refine Rn.of (me := me173) rfl ⟨Nat.le_of_ble_eq_true rfl, rfl⟩ rfl ?_
                    refine Ex.steps 8 (S' := (10, [.int 2, .int 0, .int 0], [(0, .ref 0), (1, .int 0)], hM, 0, 0)) rfl ?_
                    refine Ex.call0 (as := [.int 0, .int 0, .int 2]) (rest := []) (r := (some (.int 1))) (c1 := 0) (s1 := 0) rfl rfl rfl rfl (by
                      refine Rn.of (me := me145) rfl ⟨Nat.le_of_ble_eq_true rfl, rfl⟩ rfl ?_
                      refine Ex.steps 2 (S' := (2, [.int 0, .int 0], [(0, .int 0), (1, .int 0), (2, .int 2)], [], 0, 0)) rfl ?_
                      refine Ex.steps 1 (S' := (5, [], [(0, .int 0), (1, .int 0), (2, .int 2)], [], 0, 0)) rfl ?_
                      refine Ex.steps 2 (S' := (7, [.int 2, .int 0], [(0, .int 0), (1, .int 0), (2, .int 2)], [], 0, 0)) rfl ?_
                      refine Ex.steps 1 (S' := (10, [], [(0, .int 0), (1, .int 0), (2, .int 2)], [], 0, 0)) rfl ?_
                      refine Ex.steps 2 (S' := (15, [.int 1], [(0, .int 0), (1, .int 0), (2, .int 2)], [], 0, 0)) rfl ?_
                      exact Ex.ret rfl rfl) ?_
                    refine Ex.steps 0 (S' := (13, [.int 1], [(0, .ref 0), (1, .int 0)], hM, 0, 0)) rfl ?_
                    exact Ex.ret rfl rfl) ?_
                  refine Ex.steps 0 (S' := (5, [.int 1], [(0, .ref 0), (1, .int 0), (2, .int x2), (3, .int x3)], hM, 0, 0)) rfl ?_
                  refine Ex.steps 1 (S' := (8, [], [(0, .ref 0), (1, .int 0), (2, .int x2), (3, .int x3)], hM, 0, 0)) rfl ?_
                  refine Ex.steps 3 (S' := (13, [.int 1000000, .int (-1000000), .int x2], [(0, .ref 0), (1, .int 0), (2, .int x2), (3, .int x3)], hM, 0, 0)) rfl ?_
                  refine Ex.call0 (as := [.int x2, .int (-1000000), .int 1000000]) (rest := []) (r := (some (.int 1))) (c1 := 0) (s1 := 0) rfl rfl rfl rfl (by
                    refine Rn.of (me := me145) rfl ⟨Nat.le_of_ble_eq_true rfl, rfl⟩ rfl ?_
                    refine Ex.steps 2 (S' := (2, [.int (-1000000), .int x2], [(0, .int x2), (1, .int (-1000000)), (2, .int 1000000)], [], 0, 0)) rfl ?_
                    refine Ex.icmp rfl (cF_lt h3) rfl ?_
                    refine Ex.steps 2 (S' := (7, [.int 1000000, .int x2], [(0, .int x2), (1, .int (-1000000)), (2, .int 1000000)], [], 0, 0)) rfl ?_
                    refine Ex.icmp rfl (cF_gt h4) rfl ?_
                    refine Ex.steps 2 (S' := (15, [.int 1], [(0, .int x2), (1, .int (-1000000)), (2, .int 1000000)], [], 0, 0)) rfl ?_
                    exact Ex.ret rfl rfl) ?_
                  refine Ex.steps 0 (S' := (16, [.int 1], [(0, .ref 0), (1, .int 0), (2, .int x2), (3, .int x3)], hM, 0, 0)) rfl ?_
                  refine Ex.steps 1 (S' := (19, [], [(0, .ref 0), (1, .int 0), (2, .int x2), (3, .int x3)], hM, 0, 0)) rfl ?_
                  refine Ex.steps 3 (S' := (26, [.int 1000, .int (-1000), .int x3], [(0, .ref 0), (1, .int 0), (2, .int x2), (3, .int x3)], hM, 0, 0)) rfl ?_
                  refine Ex.call0 (as := [.int x3, .int (-1000), .int 1000]) (rest := []) (r := (some (.int 1))) (c1 := 0) (s1 := 0) rfl rfl rfl rfl (by
                    refine Rn.of (me := me145) rfl ⟨Nat.le_of_ble_eq_true rfl, rfl⟩ rfl ?_
                    refine Ex.steps 2 (S' := (2, [.int (-1000), .int x3], [(0, .int x3), (1, .int (-1000)), (2, .int 1000)], [], 0, 0)) rfl ?_
                    refine Ex.icmp rfl (cF_lt h5) rfl ?_
                    refine Ex.steps 2 (S' := (7, [.int 1000, .int x3], [(0, .int x3), (1, .int (-1000)), (2, .int 1000)], [], 0, 0)) rfl ?_
                    refine Ex.icmp rfl (cF_gt h6) rfl ?_
                    refine Ex.steps 2 (S' := (15, [.int 1], [(0, .int x3), (1, .int (-1000)), (2, .int 1000)], [], 0, 0)) rfl ?_
                    exact Ex.ret rfl rfl) ?_
                  refine Ex.steps 0 (S' := (29, [.int 1], [(0, .ref 0), (1, .int 0), (2, .int x2), (3, .int x3)], hM, 0, 0)) rfl ?_
                  refine Ex.steps 1 (S' := (35, [], [(0, .ref 0), (1, .int 0), (2, .int x2), (3, .int x3)], hM, 0, 0)) rfl ?_
                  refine Ex.steps 21 (S' := (64, [.int 1], [(0, .ref 0), (1, .int 0), (2, .int x2), (3, .int x3)], ((hM.set 1 (.inr (0, .inl ([3, 0, 0, 0, 0, 0, 0, 0, 3, 5, 0, 0, 0, 0, 0, 0, 0, 100, 0, 0, (-1), 0, 0, 0, 0, 0, 0, 0, 0, 0, 0, 0, 0, 0, 0, 0, 0, 0, 0, 0, 0, 0, 1, 0, 0, 0, 0, 0, 0, 0, 0, 0, 0, 0, 0, 0, 0, 0, 0, 0, 0, 0, 0, 0, 0, 0, 0, 0, 0, 0, 0, 0, 0, 0, 0, 0, 0, 0, 0, 0, 0, 0, 1, 0, 0, 0, 0, 0, 0, 0, 0, 0, 0, 0, 0, 0, 0, 0, 0, 0, 0, 0, 0, 0, 0, 0, 0, 0, 0, 0, 0, 0, 0, 0, 0, 0, 0, 0, 0, 0, 0, 0, 1, 0, 0, 0, 0, 0, 0, 0, 0, 0, 0, 0, 0, 0, 0, 0, 0, 0, 0, 0, 0, 0, 0, 0, 0, 0, 0, 0, 0, 0, 0, 0, 0, 0, 0, 0, 0, 0, 0, 0, 1, 0, 0, 0, 0, 0, 0, 0, 0, 0, 0, 0, 0, 0, 0, 0, 0, 0, 0, 0, 0, 0, 0, 0, 0, 0, 0, 0, 0, 0, 0, 0, 0, 0, 0, 0, 0, 0, 0, 0, 0, 0, 0, 0, 0, 0, 0, 0, 0, 0, 0, 0, 0, 0, 0, 0, 0, 0, 0, 0, 0, 0, 0, 0, 0, 0, 0, 0, 0, 0, 0, 0, 0, 0, 0, 0, 0, 0, 0, 0, 0, 0, 0, 0, 0, 0, 0, 0, 0, 0, 0, 0, 0, 0, 0, 0, 0, 0, 0, 0, 0, 0, 0, 0, 0, 0, 0, 0, 0, 0, 0, 0, 0, 0, 0, 0, 0, 0, 0, 0, 0, 0, 0, 0, 0, 0, 0, 0, 0, 0, 0, 0, 0, 0, 0, 0, 0, 0, 0, 0, 0, 0, 0, 0, 0, 0, 0, 0, 0, 0, 0, 0, 0, 0, 0, 0, 0, 0, 0, 0, 0, 0, 0, 0, 0, 0, 0, 0, 0, 0, 0, 0, 0, 0, 0, 0, 0, 0, 0, 0, 0, 0, 0, 0, 0, 0, 0, 0, 0, 0, 0, 0, 0, 0, 0, 0, 0, 0, 0, 0, 0, 0, 0, 0, 0, 0, 0, 0, 0, 0, 0, 0, 0, 0, 0, 0, 0, 0, 0, 0, 0, 0, 0, 0, 0, 0, 0, 0, 0, 0, 0, 0, 0, 0, 0, 0, 0, 0, 0, 0, 0, 0, 0, 0, 0, 0, 0, 0, 0, 0, 0, 0, 0, 0, 0, 0, 0, 0, 0, 0, 0, 0, 0, 0, 0, 0, 0, 0, 0, 0, 0, 0, 0, 0, 0, 0, 0, 0, 0, 0, 0, 0, 0, 0, 0, 0, 0, 0, 0, 0, 0, 0, 0, 0, 0, 0, 0, 0, 0, 0, 0, 0, 0, 0, 0, 0, 0, 0, 0, 0, 0, 0, 0, 0, 0, 0, 0, 0, 0, 0, 0, 0, 0, 0, 0, 0, 0, 0, 0, 0, 0, 0, 0, 0, 0, 0, 0, 0, 0, 0, 0, 0, 0, 0, 0, 0, 0, 0, 0, 0, 0, 0, 0, 0, 0, 0, 0, 0, 0, 0, 0, 0, 0, 0, 0, 0, 0, 0, 0, 0, 0, 0, 0, 0, 0, 0, 0, 0, 0, 0, 0, 0, 0, 0, 0, 0, 0, 0, 0, 0, 0, 0, 0, 0, 0, 0, 0, 0, 0, 0, 0, 0, 0, 0, 0, 0, 0, 0, 0, 0, 0, 0, 0, 0, 0, 0, 0, 0, 0, 0, 0, 0, 0, 0, 0, 0, 0, 0, 0, 0, 0, 0, 0, 0, 0, 0, 0, 0, 0, 0, 0, 0, 0, 0, 0, 0, 0, 0, 0, 0, 0, 0, 0, 0, 0, 0, 0, 0, 0, 0, 0, 0, 0, 0, 0, 0, 0, 0, 0, 0, 0, 0, 0, 0, 0, 0, 0, 0, 0, 0, 0, 0, 0, 0, 0, 0, 0, 0, 0, 0, 0, 0, 0, 0, 0, 0, 0, 0, 0, 0, 0, 0, 0, 0, 0, 0, 0, 0, 0, 0, 0, 0, 0, 0, 0, 0, 0, 0, 0, 0, 0, 0, 0, 0, 0, 0, 0, 0, 0, 0, 0, 0, 0, 0, 0, 0, 0, 0, 0, 0, 0, 0, 0, 0, 0, 0, 0, 0, 0, 0, 0, 0, 0, 0, 0, 0, 0, 0, 0, 0, 0, 0, 0, 0, 0, 0, 0, 0, 0, 0, 0, 0, 0, 0, 0, 0, 0, 0, 0, 0, 0, 0, 0, 0, 0, 0, 0, 0, 0, 0, 0, 0, 0, 0, 0, 0, 0, 0, 0, 0, 0, 0, 0, 0, 0, 0, 0, 0, 0, 0, 0, 0, 0, 0, 0, 0, 0, 0, 0, 0, 0, 0, (-100), 100, (-100), 100, (-100), 100, (-100), 100, 0, 0, 0, 0, 0, 0, 0, 0, 0, 0, 0, 0, 0, 0, 0, 0, 0, 0, 0, 0, 0, 0, 0, 0, 0, 0, 0, 0, 0, 0, 0, 0, 0, 0, 0, 0, 0, 0, 0, 0, 0, 0, 0, 0, 0, 0, 0, 0, 0, 0, 0, 0, 0, 0, 0, 0, 0, 0, 0, 0, 0, 0, 0, 0, 0, 0, 0, 0, 0, 0, 0, 0, 0, 0, 0, 0, 0, 0, 0, 0, 0, 0, 0, 0, 0, 0, 0, 0, 0, 0, 0, 0, 0, 0, 0, 0, 0, 0, 0, 0, 0, 0, 0, 0, 0, 0, 0, 0, 0, 0, 0, 0, 0, 0, 0, 0, 0, 0].set 902 x2)))).set 1 (.inr (0, .inl (([3, 0, 0, 0, 0, 0, 0, 0, 3, 5, 0, 0, 0, 0, 0, 0, 0, 100, 0, 0, (-1), 0, 0, 0, 0, 0, 0, 0, 0, 0, 0, 0, 0, 0, 0, 0, 0, 0, 0, 0, 0, 0, 1, 0, 0, 0, 0, 0, 0, 0, 0, 0, 0, 0, 0, 0, 0, 0, 0, 0, 0, 0, 0, 0, 0, 0, 0, 0, 0, 0, 0, 0, 0, 0, 0, 0, 0, 0, 0, 0, 0, 0, 1, 0, 0, 0, 0, 0, 0, 0, 0, 0, 0, 0, 0, 0, 0, 0, 0, 0, 0, 0, 0, 0, 0, 0, 0, 0, 0, 0, 0, 0, 0, 0, 0, 0, 0, 0, 0, 0, 0, 0, 1, 0, 0, 0, 0, 0, 0, 0, 0, 0, 0, 0, 0, 0, 0, 0, 0, 0, 0, 0, 0, 0, 0, 0, 0, 0, 0, 0, 0, 0, 0, 0, 0, 0, 0, 0, 0, 0, 0, 0, 1, 0, 0, 0, 0, 0, 0, 0, 0, 0, 0, 0, 0, 0, 0, 0, 0, 0, 0, 0, 0, 0, 0, 0, 0, 0, 0, 0, 0, 0, 0, 0, 0, 0, 0, 0, 0, 0, 0, 0, 0, 0, 0, 0, 0, 0, 0, 0, 0, 0, 0, 0, 0, 0, 0, 0, 0, 0, 0, 0, 0, 0, 0, 0, 0, 0, 0, 0, 0, 0, 0, 0, 0, 0, 0, 0, 0, 0, 0, 0, 0, 0, 0, 0, 0, 0, 0, 0, 0, 0, 0, 0, 0, 0, 0, 0, 0, 0, 0, 0, 0, 0, 0, 0, 0, 0, 0, 0, 0, 0, 0, 0, 0, 0, 0, 0, 0, 0, 0, 0, 0, 0, 0, 0, 0, 0, 0, 0, 0, 0, 0, 0, 0, 0, 0, 0, 0, 0, 0, 0, 0, 0, 0, 0, 0, 0, 0, 0, 0, 0, 0, 0, 0, 0, 0, 0, 0, 0, 0, 0, 0, 0, 0, 0, 0, 0, 0, 0, 0, 0, 0, 0, 0, 0, 0, 0, 0, 0, 0, 0, 0, 0, 0, 0, 0, 0, 0, 0, 0, 0, 0, 0, 0, 0, 0, 0, 0, 0, 0, 0, 0, 0, 0, 0, 0, 0, 0, 0, 0, 0, 0, 0, 0, 0, 0, 0, 0, 0, 0, 0, 0, 0, 0, 0, 0, 0, 0, 0, 0, 0, 0, 0, 0, 0, 0, 0, 0, 0, 0, 0, 0, 0, 0, 0, 0, 0, 0, 0, 0, 0, 0, 0, 0, 0, 0, 0, 0, 0, 0, 0, 0, 0, 0, 0, 0, 0, 0, 0, 0, 0, 0, 0, 0, 0, 0, 0, 0, 0, 0, 0, 0, 0, 0, 0, 0, 0, 0, 0, 0, 0, 0, 0, 0, 0, 0, 0, 0, 0, 0, 0, 0, 0, 0, 0, 0, 0, 0, 0, 0, 0, 0, 0, 0, 0, 0, 0, 0, 0, 0, 0, 0, 0, 0, 0, 0, 0, 0, 0, 0, 0, 0, 0, 0, 0, 0, 0, 0, 0, 0, 0, 0, 0, 0, 0, 0, 0, 0, 0, 0, 0, 0, 0, 0, 0, 0, 0, 0, 0, 0, 0, 0, 0, 0, 0, 0, 0, 0, 0, 0, 0, 0, 0, 0, 0, 0, 0, 0, 0, 0, 0, 0, 0, 0, 0, 0, 0, 0, 0, 0, 0, 0, 0, 0, 0, 0, 0, 0, 0, 0, 0, 0, 0, 0, 0, 0, 0, 0, 0, 0, 0, 0, 0, 0, 0, 0, 0, 0, 0, 0, 0, 0, 0, 0, 0, 0, 0, 0, 0, 0, 0, 0, 0, 0, 0, 0, 0, 0, 0, 0, 0, 0, 0, 0, 0, 0, 0, 0, 0, 0, 0, 0, 0, 0, 0, 0, 0, 0, 0, 0, 0, 0, 0, 0, 0, 0, 0, 0, 0, 0, 0, 0, 0, 0, 0, 0, 0, 0, 0, 0, 0, 0, 0, 0, 0, 0, 0, 0, 0, 0, 0, 0, 0, 0, 0, 0, 0, 0, 0, 0, 0, 0, 0, 0, 0, 0, 0, 0, 0, 0, 0, 0, 0, 0, 0, 0, 0, 0, 0, 0, 0, 0, 0, 0, 0, 0, 0, 0, 0, 0, 0, 0, 0, 0, 0, 0, 0, 0, 0, 0, 0, 0, 0, 0, 0, 0, 0, 0, 0, 0, 0, 0, 0, 0, 0, 0, 0, 0, 0, 0, 0, 0, 0, 0, 0, 0, 0, 0, 0, 0, 0, 0, 0, 0, 0, 0, 0, 0, 0, 0, 0, 0, 0, 0, 0, 0, 0, 0, 0, 0, 0, 0, 0, 0, 0, 0, 0, 0, 0, 0, 0, 0, 0, 0, 0, 0, 0, 0, 0, 0, 0, 0, 0, 0, 0, 0, 0, 0, 0, 0, 0, 0, 0, (-100), 100, (-100), 100, (-100), 100, (-100), 100, 0, 0, 0, 0, 0, 0, 0, 0, 0, 0, 0, 0, 0, 0, 0, 0, 0, 0, 0, 0, 0, 0, 0, 0, 0, 0, 0, 0, 0, 0, 0, 0, 0, 0, 0, 0, 0, 0, 0, 0, 0, 0, 0, 0, 0, 0, 0, 0, 0, 0, 0, 0, 0, 0, 0, 0, 0, 0, 0, 0, 0, 0, 0, 0, 0, 0, 0, 0, 0, 0, 0, 0, 0, 0, 0, 0, 0, 0, 0, 0, 0, 0, 0, 0, 0, 0, 0, 0, 0, 0, 0, 0, 0, 0, 0, 0, 0, 0, 0, 0, 0, 0, 0, 0, 0, 0, 0, 0, 0, 0, 0, 0, 0, 0, 0, 0, 0, 0].set 902 x2).set 903 x3)))), 0, 0)) rfl ?_
                  exact Ex.ret rfl rfl) (by decide)
              | 1, _ =>
                show BothI 128 221 [.int 1, .int x2, .int x3]
                exact mkI (x := 1) (c1 := 0) (s1 := 0) (c2 := 0) (s2 := 0) (by
                  refine Rn.of (me := me128) rfl ⟨Nat.le_of_ble_eq_true rfl, rfl⟩ rfl ?_
                  refine Ex.steps 2 (S' := (2, [.int 1, .ref 0], [(0, .ref 0), (1, .int 1), (2, .int x2), (3, .int x3)], hX, 0, 0)) rfl ?_
                  refine Ex.callX (as := [.int 1]) (rest := []) (r := (some (.int 1))) (c1 := 0) (s1 := 0) rfl rfl rfl rfl xX1 xX2 rfl xX3 xX4 rfl okX (by
                    refine Rn.of (me := me90) rfl ⟨Nat.le_of_ble_eq_true rfl, rfl⟩ rfl ?_
                    refine Ex.steps 7 (S' := (11, [.int 2, .int 0, .int 1], [(0, .ref 0), (1, .int 1)], hX, 0, 0)) rfl ?_
                    refine Ex.call0 (as := [.int 1, .int 0, .int 2]) (rest := []) (r := (some (.int 1))) (c1 := 0) (s1 := 0) rfl rfl rfl rfl (by
                      refine Rn.of (me := me12) rfl ⟨Nat.le_of_ble_eq_true rfl, rfl⟩ rfl ?_
                      refine Ex.steps 2 (S' := (2, [.int 0, .int 1], [(0, .int 1), (1, .int 0), (2, .int 2)], [], 0, 0)) rfl ?_
                      refine Ex.steps 1 (S' := (5, [], [(0, .int 1), (1, .int 0), (2, .int 2)], [], 0, 0)) rfl ?_
                      refine Ex.steps 2 (S' := (7, [.int 2, .int 1], [(0, .int 1), (1, .int 0), (2, .int 2)], [], 0, 0)) rfl ?_
                      refine Ex.steps 1 (S' := (10, [], [(0, .int 1), (1, .int 0), (2, .int 2)], [], 0, 0)) rfl ?_
                      refine Ex.steps 2 (S' := (15, [.int 1], [(0, .int 1), (1, .int 0), (2, .int 2)], [], 0, 0)) rfl ?_
                      exact Ex.ret rfl rfl) ?_
                    refine Ex.steps 0 (S' := (14, [.int 1], [(0, .ref 0), (1, .int 1)], hX, 0, 0)) rfl ?_
                    exact Ex.ret rfl rfl) ?_
                  refine Ex.steps 0 (S' := (5, [.int 1], [(0, .ref 0), (1, .int 1), (2, .int x2), (3, .int x3)], hX, 0, 0)) rfl ?_
                  refine Ex.steps 1 (S' := (8, [], [(0, .ref 0), (1, .int 1), (2, .int x2), (3, .int x3)], hX, 0, 0)) rfl ?_
                  refine Ex.steps 3 (S' := (13, [.int 1000000, .int (-1000000), .int x2], [(0, .ref 0), (1, .int 1), (2, .int x2), (3, .int x3)], hX, 0, 0)) rfl ?_
                  refine Ex.call0 (as := [.int x2, .int (-1000000), .int 1000000]) (rest := []) (r := (some (.int 1))) (c1 := 0) (s1 := 0) rfl rfl rfl rfl (by
                    refine Rn.of (me := me12) rfl ⟨Nat.le_of_ble_eq_true rfl, rfl⟩ rfl ?_
                    refine Ex.steps 2 (S' := (2, [.int (-1000000), .int x2], [(0, .int x2), (1, .int (-1000000)), (2, .int 1000000)], [], 0, 0)) rfl ?_
                    refine Ex.icmp rfl (cF_lt h3) rfl ?_
                    refine Ex.steps 2 (S' := (7, [.int 1000000, .int x2], [(0, .int x2), (1, .int (-1000000)), (2, .int 1000000)], [], 0, 0)) rfl ?_
                    refine Ex.icmp rfl (cF_gt h4) rfl ?_
                    refine Ex.steps 2 (S' := (15, [.int 1], [(0, .int x2), (1, .int (-1000000)), (2, .int 1000000)], [], 0, 0)) rfl ?_
                    exact Ex.ret rfl rfl) ?_
                  refine Ex.steps 0 (S' := (16, [.int 1], [(0, .ref 0), (1, .int 1), (2, .int x2), (3, .int x3)], hX, 0, 0)) rfl ?_
                  refine Ex.steps 1 (S' := (19, [], [(0, .ref 0), (1, .int 1), (2, .int x2), (3, .int x3)], hX, 0, 0)) rfl ?_
                  refine Ex.steps 3 (S' := (26, [.int 1000, .int (-1000), .int x3], [(0, .ref 0), (1, .int 1), (2, .int x2), (3, .int x3)], hX, 0, 0)) rfl ?_
                  refine Ex.call0 (as := [.int x3, .int (-1000), .int 1000]) (rest := []) (r := (some (.int 1))) (c1 := 0) (s1 := 0) rfl rfl rfl rfl (by
                    refine Rn.of (me := me12) rfl ⟨Nat.le_of_ble_eq_true rfl, rfl⟩ rfl ?_
                    refine Ex.steps 2 (S' := (2, [.int (-1000), .int x3], [(0, .int x3), (1, .int (-1000)), (2, .int 1000)], [], 0, 0)) rfl ?_
                    refine Ex.icmp rfl (cF_lt h5) rfl ?_
                    refine Ex.steps 2 (S' := (7, [.int 1000, .int x3], [(0, .int x3), (1, .int (-1000)), (2, .int 1000)], [], 0, 0)) rfl ?_
                    refine Ex.icmp rfl (cF_gt h6) rfl ?_
                    refine Ex.steps 2 (S' := (15, [.int 1], [(0, .int x3), (1, .int (-1000)), (2, .int 1000)], [], 0, 0)) rfl ?_
                    exact Ex.ret rfl rfl) ?_
                  refine Ex.steps 0 (S' := (29, [.int 1], [(0, .ref 0), (1, .int 1), (2, .int x2), (3, .int x3)], hX, 0, 0)) rfl ?_
                  refine Ex.steps 1 (S' := (35, [], [(0, .ref 0), (1, .int 1), (2, .int x2), (3, .int x3)], hX, 0, 0)) rfl ?_
                  refine Ex.steps 13 (S' := (56, [.int 1], [(0, .ref 0), (1, .int 1), (2, .int x2), (3, .int x3)], ((hX.set 39 (.inr (0, .inl ((List.replicate 4 0).set 1 x2)))).set 40 (.inr (0, .inl ((List.replicate 4 0).set 1 x3)))), 0, 0)) rfl ?_
                  exact Ex.ret rfl rfl) (by
                  refine Rn.of (me := me221) rfl ⟨Nat.le_of_ble_eq_true rfl, rfl⟩ rfl ?_
                  refine Ex.steps 2 (S' := (2, [.int 1, .ref 0], [(0, .ref 0), (1, .int 1), (2, .int x2), (3, .int x3)], hM, 0, 0)) rfl ?_
                  refine Ex.callX (as := [.int 1]) (rest := []) (r := (some (.int 1))) (c1 := 0) (s1 := 0) rfl rfl rfl rfl xM1 xM2 rfl xM3 xM4 rfl okM (by
                    refine Rn.of (me := me173) rfl ⟨Nat.le_of_ble_eq_true rfl, rfl⟩ rfl ?_
                    refine Ex.steps 8 (S' := (10, [.int 2, .int 0, .int 1], [(0, .ref 0), (1, .int 1)], hM, 0, 0)) rfl ?_
                    refine Ex.call0 (as := [.int 1, .int 0, .int 2]) (rest := []) (r := (some (.int 1))) (c1 := 0) (s1 := 0) rfl rfl rfl rfl (by
                      refine Rn.of (me := me145) rfl ⟨Nat.le_of_ble_eq_true rfl, rfl⟩ rfl ?_
                      refine Ex.steps 2 (S' := (2, [.int 0, .int 1], [(0, .int 1), (1, .int 0), (2, .int 2)], [], 0, 0)) rfl ?_
                      refine Ex.steps 1 (S' := (5, [], [(0, .int 1), (1, .int 0), (2, .int 2)], [], 0, 0)) rfl ?_
                      refine Ex.steps 2 (S' := (7, [.int 2, .int 1], [(0, .int 1), (1, .int 0), (2, .int 2)], [], 0, 0)) rfl ?_
                      refine Ex.steps 1 (S' := (10, [], [(0, .int 1), (1, .int 0), (2, .int 2)], [], 0, 0)) rfl ?_
                      refine Ex.steps 2 (S' := (15, [.int 1], [(0, .int 1), (1, .int 0), (2, .int 2)], [], 0, 0)) rfl ?_
                      exact Ex.ret rfl rfl) ?_
                    refine Ex.steps 0 (S' := (13, [.int 1], [(0, .ref 0), (1, .int 1)], hM, 0, 0)) rfl ?_
                    exact Ex.ret rfl rfl) ?_
                  refine Ex.steps 0 (S' := (5, [.int 1], [(0, .ref 0), (1, .int 1), (2, .int x2), (3, .int x3)], hM, 0, 0)) rfl ?_
                  refine Ex.steps 1 (S' := (8, [], [(0, .ref 0), (1, .int 1), (2, .int x2), (3, .int x3)], hM, 0, 0)) rfl ?_
                  refine Ex.steps 3 (S' := (13, [.int 1000000, .int (-1000000), .int x2], [(0, .ref 0), (1, .int 1), (2, .int x2), (3, .int x3)], hM, 0, 0)) rfl ?_
                  refine Ex.call0 (as := [.int x2, .int (-1000000), .int 1000000]) (rest := []) (r := (some (.int 1))) (c1 := 0) (s1 := 0) rfl rfl rfl rfl (by
                    refine Rn.of (me := me145) rfl ⟨Nat.le_of_ble_eq_true rfl, rfl⟩ rfl ?_
                    refine Ex.steps 2 (S' := (2, [.int (-1000000), .int x2], [(0, .int x2), (1, .int (-1000000)), (2, .int 1000000)], [], 0, 0)) rfl ?_
                    refine Ex.icmp rfl (cF_lt h3) rfl ?_
                    refine Ex.steps 2 (S' := (7, [.int 1000000, .int x2], [(0, .int x2), (1, .int (-1000000)), (2, .int 1000000)], [], 0, 0)) rfl ?_
                    refine Ex.icmp rfl (cF_gt h4) rfl ?_
                    refine Ex.steps 2 (S' := (15, [.int 1], [(0, .int x2), (1, .int (-1000000)), (2, .int 1000000)], [], 0, 0)) rfl ?_
                    exact Ex.ret rfl rfl) ?_
                  refine Ex.steps 0 (S' := (16, [.int 1], [(0, .ref 0), (1, .int 1), (2, .int x2), (3, .int x3)], hM, 0, 0)) rfl ?_
                  refine Ex.steps 1 (S' := (19, [], [(0, .ref 0), (1, .int 1), (2, .int x2), (3, .int x3)], hM, 0, 0)) rfl ?_
                  refine Ex.steps 3 (S' := (26, [.int 1000, .int (-1000), .int x3], [(0, .ref 0), (1, .int 1), (2, .int x2), (3, .int x3)], hM, 0, 0)) rfl ?_
                  refine Ex.call0 (as := [.int x3, .int (-1000), .int 1000]) (rest := []) (r := (some (.int 1))) (c1 := 0) (s1 := 0) rfl rfl rfl rfl (by
                    refine Rn.of (me := me145) rfl ⟨Nat.le_of_ble_eq_true rfl, rfl⟩ rfl ?_
                    refine Ex.steps 2 (S' := (2, [.int (-1000), .int x3], [(0, .int x3), (1, .int (-1000)), (2, .int 1000)], [], 0, 0)) rfl ?_
                    refine Ex.icmp rfl (cF_lt h5) rfl ?_
                    refine Ex.steps 2 (S' := (7, [.int 1000, .int x3], [(0, .int x3), (1, .int (-1000)), (2, .int 1000)], [], 0, 0)) rfl ?_
                    refine Ex.icmp rfl (cF_gt h6) rfl ?_
                    refine Ex.steps 2 (S' := (15, [.int 1], [(0, .int x3), (1, .int (-1000)), (2, .int 1000)], [], 0, 0)) rfl ?_
                    exact Ex.ret rfl rfl) ?_
                  refine Ex.steps 0 (S' := (29, [.int 1], [(0, .ref 0), (1, .int 1), (2, .int x2), (3, .int x3)], hM, 0, 0)) rfl ?_
                  refine Ex.steps 1 (S' := (35, [], [(0, .ref 0), (1, .int 1), (2, .int x2), (3, .int x3)], hM, 0, 0)) rfl ?_
                  refine Ex.steps 21 (S' := (64, [.int 1], [(0, .ref 0), (1, .int 1), (2, .int x2), (3, .int x3)], ((hM.set 1 (.inr (0, .inl ([3, 0, 0, 0, 0, 0, 0, 0, 3, 5, 0, 0, 0, 0, 0, 0, 0, 100, 0, 0, (-1), 0, 0, 0, 0, 0, 0, 0, 0, 0, 0, 0, 0, 0, 0, 0, 0, 0, 0, 0, 0, 0, 1, 0, 0, 0, 0, 0, 0, 0, 0, 0, 0, 0, 0, 0, 0, 0, 0, 0, 0, 0, 0, 0, 0, 0, 0, 0, 0, 0, 0, 0, 0, 0, 0, 0, 0, 0, 0, 0, 0, 0, 1, 0, 0, 0, 0, 0, 0, 0, 0, 0, 0, 0, 0, 0, 0, 0, 0, 0, 0, 0, 0, 0, 0, 0, 0, 0, 0, 0, 0, 0, 0, 0, 0, 0, 0, 0, 0, 0, 0, 0, 1, 0, 0, 0, 0, 0, 0, 0, 0, 0, 0, 0, 0, 0, 0, 0, 0, 0, 0, 0, 0, 0, 0, 0, 0, 0, 0, 0, 0, 0, 0, 0, 0, 0, 0, 0, 0, 0, 0, 0, 1, 0, 0, 0, 0, 0, 0, 0, 0, 0, 0, 0, 0, 0, 0, 0, 0, 0, 0, 0, 0, 0, 0, 0, 0, 0, 0, 0, 0, 0, 0, 0, 0, 0, 0, 0, 0, 0, 0, 0, 0, 0, 0, 0, 0, 0, 0, 0, 0, 0, 0, 0, 0, 0, 0, 0, 0, 0, 0, 0, 0, 0, 0, 0, 0, 0, 0, 0, 0, 0, 0, 0, 0, 0, 0, 0, 0, 0, 0, 0, 0, 0, 0, 0, 0, 0, 0, 0, 0, 0, 0, 0, 0, 0, 0, 0, 0, 0, 0, 0, 0, 0, 0, 0, 0, 0, 0, 0, 0, 0, 0, 0, 0, 0, 0, 0, 0, 0, 0, 0, 0, 0, 0, 0, 0, 0, 0, 0, 0, 0, 0, 0, 0, 0, 0, 0, 0, 0, 0, 0, 0, 0, 0, 0, 0, 0, 0, 0, 0, 0, 0, 0, 0, 0, 0, 0, 0, 0, 0, 0, 0, 0, 0, 0, 0, 0, 0, 0, 0, 0, 0, 0, 0, 0, 0, 0, 0, 0, 0, 0, 0, 0, 0, 0, 0, 0, 0, 0, 0, 0, 0, 0, 0, 0, 0, 0, 0, 0, 0, 0, 0, 0, 0, 0, 0, 0, 0, 0, 0, 0, 0, 0, 0, 0, 0, 0, 0, 0, 0, 0, 0, 0, 0, 0, 0, 0, 0, 0, 0, 0, 0, 0, 0, 0, 0, 0, 0, 0, 0, 0, 0, 0, 0, 0, 0, 0, 0, 0, 0, 0, 0, 0, 0, 0, 0, 0, 0, 0, 0, 0, 0, 0, 0, 0, 0, 0, 0, 0, 0, 0, 0, 0, 0, 0, 0, 0, 0, 0, 0, 0, 0, 0, 0, 0, 0, 0, 0, 0, 0, 0, 0, 0, 0, 0, 0, 0, 0, 0, 0, 0, 0, 0, 0, 0, 0, 0, 0, 0, 0, 0, 0, 0, 0, 0, 0, 0, 0, 0, 0, 0, 0, 0, 0, 0, 0, 0, 0, 0, 0, 0, 0, 0, 0, 0, 0, 0, 0, 0, 0, 0, 0, 0, 0, 0, 0, 0, 0, 0, 0, 0, 0, 0, 0, 0, 0, 0, 0, 0, 0, 0, 0, 0, 0, 0, 0, 0, 0, 0, 0, 0, 0, 0, 0, 0, 0, 0, 0, 0, 0, 0, 0, 0, 0, 0, 0, 0, 0, 0, 0, 0, 0, 0, 0, 0, 0, 0, 0, 0, 0, 0, 0, 0, 0, 0, 0, 0, 0, 0, 0, 0, 0, 0, 0, 0, 0, 0, 0, 0, 0, 0, 0, 0, 0, 0, 0, 0, 0, 0, 0, 0, 0, 0, 0, 0, 0, 0, 0, 0, 0, 0, 0, 0, 0, 0, 0, 0, 0, 0, 0, 0, 0, 0, 0, 0, 0, 0, 0, 0, 0, 0, 0, 0, 0, 0, 0, 0, 0, 0, 0, 0, 0, 0, 0, 0, 0, 0, 0, 0, 0, 0, 0, 0, 0, 0, 0, 0, 0, 0, 0, 0, 0, 0, 0, 0, 0, 0, 0, 0, 0, 0, 0, 0, 0, 0, 0, 0, 0, 0, 0, 0, 0, 0, 0, 0, 0, 0, 0, 0, 0, 0, 0, 0, 0, 0, 0, 0, 0, 0, 0, 0, 0, 0, 0, 0, 0, 0, 0, 0, 0, 0, 0, 0, 0, 0, 0, 0, 0, 0, 0, 0, 0, 0, 0, 0, 0, 0, 0, 0, 0, 0, 0, 0, 0, 0, 0, 0, 0, 0, 0, 0, 0, 0, 0, 0, 0, 0, 0, 0, 0, 0, 0, 0, 0, 0, 0, 0, 0, 0, 0, 0, 0, 0, 0, 0, 0, 0, 0, 0, 0, 0, 0, 0, 0, 0, 0, 0, 0, 0, 0, 0, 0, 0, 0, 0, 0, 0, 0, 0, 0, 0, 0, 0, (-100), 100, (-100), 100, (-100), 100, (-100), 100, 0, 0, 0, 0, 0, 0, 0, 0, 0, 0, 0, 0, 0, 0, 0, 0, 0, 0, 0, 0, 0, 0, 0, 0, 0, 0, 0, 0, 0, 0, 0, 0, 0, 0, 0, 0, 0, 0, 0, 0, 0, 0, 0, 0, 0, 0, 0, 0, 0, 0, 0, 0, 0, 0, 0, 0, 0, 0, 0, 0, 0, 0, 0, 0, 0, 0, 0, 0, 0, 0, 0, 0, 0, 0, 0, 0, 0, 0, 0, 0, 0, 0, 0, 0, 0, 0, 0, 0, 0, 0, 0, 0, 0, 0, 0, 0, 0, 0, 0, 0, 0, 0, 0, 0, 0, 0, 0, 0, 0, 0, 0, 0, 0, 0, 0, 0, 0, 0].set 904 x2)))).set 1 (.inr (0, .inl (([3, 0, 0, 0, 0, 0, 0, 0, 3, 5, 0, 0, 0, 0, 0, 0, 0, 100, 0, 0, (-1), 0, 0, 0, 0, 0, 0, 0, 0, 0, 0, 0, 0, 0, 0, 0, 0, 0, 0, 0, 0, 0, 1, 0, 0, 0, 0, 0, 0, 0, 0, 0, 0, 0, 0, 0, 0, 0, 0, 0, 0, 0, 0, 0, 0, 0, 0, 0, 0, 0, 0, 0, 0, 0, 0, 0, 0, 0, 0, 0, 0, 0, 1, 0, 0, 0, 0, 0, 0, 0, 0, 0, 0, 0, 0, 0, 0, 0, 0, 0, 0, 0, 0, 0, 0, 0, 0, 0, 0, 0, 0, 0, 0, 0, 0, 0, 0, 0, 0, 0, 0, 0, 1, 0, 0, 0, 0, 0, 0, 0, 0, 0, 0, 0, 0, 0, 0, 0, 0, 0, 0, 0, 0, 0, 0, 0, 0, 0, 0, 0, 0, 0, 0, 0, 0, 0, 0, 0, 0, 0, 0, 0, 1, 0, 0, 0, 0, 0, 0, 0, 0, 0, 0, 0, 0, 0, 0, 0, 0, 0, 0, 0, 0, 0, 0, 0, 0, 0, 0, 0, 0, 0, 0, 0, 0, 0, 0, 0, 0, 0, 0, 0, 0, 0, 0, 0, 0, 0, 0, 0, 0, 0, 0, 0, 0, 0, 0, 0, 0, 0, 0, 0, 0, 0, 0, 0, 0, 0, 0, 0, 0, 0, 0, 0, 0, 0, 0, 0, 0, 0, 0, 0, 0, 0, 0, 0, 0, 0, 0, 0, 0, 0, 0, 0, 0, 0, 0, 0, 0, 0, 0, 0, 0, 0, 0, 0, 0, 0, 0, 0, 0, 0, 0, 0, 0, 0, 0, 0, 0, 0, 0, 0, 0, 0, 0, 0, 0, 0, 0, 0, 0, 0, 0, 0, 0, 0, 0, 0, 0, 0, 0, 0, 0, 0, 0, 0, 0, 0, 0, 0, 0, 0, 0, 0, 0, 0, 0, 0, 0, 0, 0, 0, 0, 0, 0, 0, 0, 0, 0, 0, 0, 0, 0, 0, 0, 0, 0, 0, 0, 0, 0, 0, 0, 0, 0, 0, 0, 0, 0, 0, 0, 0, 0, 0, 0, 0, 0, 0, 0, 0, 0, 0, 0, 0, 0, 0, 0, 0, 0, 0, 0, 0, 0, 0, 0, 0, 0, 0, 0, 0, 0, 0, 0, 0, 0, 0, 0, 0, 0, 0, 0, 0, 0, 0, 0, 0, 0, 0, 0, 0, 0, 0, 0, 0, 0, 0, 0, 0, 0, 0, 0, 0, 0, 0, 0, 0, 0, 0, 0, 0, 0, 0, 0, 0, 0, 0, 0, 0, 0, 0, 0, 0, 0, 0, 0, 0, 0, 0, 0, 0, 0, 0, 0, 0, 0, 0, 0, 0, 0, 0, 0, 0, 0, 0, 0, 0, 0, 0, 0, 0, 0, 0, 0, 0, 0, 0, 0, 0, 0, 0, 0, 0, 0, 0, 0, 0, 0, 0, 0, 0, 0, 0, 0, 0, 0, 0, 0, 0, 0, 0, 0, 0, 0, 0, 0, 0, 0, 0, 0, 0, 0, 0, 0, 0, 0, 0, 0, 0, 0, 0, 0, 0, 0, 0, 0, 0, 0, 0, 0, 0, 0, 0, 0, 0, 0, 0, 0, 0, 0, 0, 0, 0, 0, 0, 0, 0, 0, 0, 0, 0, 0, 0, 0, 0, 0, 0, 0, 0, 0, 0, 0, 0, 0, 0, 0, 0, 0, 0, 0, 0, 0, 0, 0, 0, 0, 0, 0, 0, 0, 0, 0, 0, 0, 0, 0, 0, 0, 0, 0, 0, 0, 0, 0, 0, 0, 0, 0, 0, 0, 0, 0, 0, 0, 0, 0, 0, 0, 0, 0, 0, 0, 0, 0, 0, 0, 0, 0, 0, 0, 0, 0, 0, 0, 0, 0, 0, 0, 0, 0, 0, 0, 0, 0, 0, 0, 0, 0, 0, 0, 0, 0, 0, 0, 0, 0, 0, 0, 0, 0, 0, 0, 0, 0, 0, 0, 0, 0, 0, 0, 0, 0, 0, 0, 0, 0, 0, 0, 0, 0, 0, 0, 0, 0, 0, 0, 0, 0, 0, 0, 0, 0, 0, 0, 0, 0, 0, 0, 0, 0, 0, 0, 0, 0, 0, 0, 0, 0, 0, 0, 0, 0, 0, 0, 0, 0, 0, 0, 0, 0, 0, 0, 0, 0, 0, 0, 0, 0, 0, 0, 0, 0, 0, 0, 0, 0, 0, 0, 0, 0, 0, 0, 0, 0, 0, 0, 0, 0, 0, 0, 0, 0, 0, 0, 0, 0, 0, 0, 0, 0, 0, 0, 0, 0, 0, 0, 0, 0, 0, 0, 0, 0, 0, 0, 0, 0, 0, 0, 0, 0, 0, 0, 0, 0, 0, 0, 0, 0, 0, 0, 0, 0, 0, 0, 0, 0, 0, 0, 0, 0, 0, 0, 0, 0, 0, (-100), 100, (-100), 100, (-100), 100, (-100), 100, 0, 0, 0, 0, 0, 0, 0, 0, 0, 0, 0, 0, 0, 0, 0, 0, 0, 0, 0, 0, 0, 0, 0, 0, 0, 0, 0, 0, 0, 0, 0, 0, 0, 0, 0, 0, 0, 0, 0, 0, 0, 0, 0, 0, 0, 0, 0, 0, 0, 0, 0, 0, 0, 0, 0, 0, 0, 0, 0, 0, 0, 0, 0, 0, 0, 0, 0, 0, 0, 0, 0, 0, 0, 0, 0, 0, 0, 0, 0, 0, 0, 0, 0, 0, 0, 0, 0, 0, 0, 0, 0, 0, 0, 0, 0, 0, 0, 0, 0, 0, 0, 0, 0, 0, 0, 0, 0, 0, 0, 0, 0, 0, 0, 0, 0, 0, 0, 0].set 904 x2).set 905 x3)))), 0, 0)) rfl ?_
                  exact Ex.ret rfl rfl) (by decide)
              | 2, _ =>
                show BothI 128 221 [.int 2, .int x2, .int x3]
                exact mkI (x := 1) (c1 := 0) (s1 := 0) (c2 := 0) (s2 := 0) (by
                  refine Rn.of (me := me128) rfl ⟨Nat.le_of_ble_eq_true rfl, rfl⟩ rfl ?_
                  refine Ex.steps 2 (S' := (2, [.int 2, .ref 0], [(0, .ref 0), (1, .int 2), (2, .int x2), (3, .int x3)], hX, 0, 0)) rfl ?_
                  refine Ex.callX (as := [.int 2]) (rest := []) (r := (some (.int 1))) (c1 := 0) (s1 := 0) rfl rfl rfl rfl xX1 xX2 rfl xX3 xX4 rfl okX (by
                    refine Rn.of (me := me90) rfl ⟨Nat.le_of_ble_eq_true rfl, rfl⟩ rfl ?_
                    refine Ex.steps 7 (S' := (11, [.int 2, .int 0, .int 2], [(0, .ref 0), (1, .int 2)], hX, 0, 0)) rfl ?_
                    refine Ex.call0 (as := [.int 2, .int 0, .int 2]) (rest := []) (r := (some (.int 1))) (c1 := 0) (s1 := 0) rfl rfl rfl rfl (by
                      refine Rn.of (me := me12) rfl ⟨Nat.le_of_ble_eq_true rfl, rfl⟩ rfl ?_
                      refine Ex.steps 2 (S' := (2, [.int 0, .int 2], [(0, .int 2), (1, .int 0), (2, .int 2)], [], 0, 0)) rfl ?_
                      refine Ex.steps 1 (S' := (5, [], [(0, .int 2), (1, .int 0), (2, .int 2)], [], 0, 0)) rfl ?_
                      refine Ex.steps 2 (S' := (7, [.int 2, .int 2], [(0, .int 2), (1, .int 0), (2, .int 2)], [], 0, 0)) rfl ?_
                      refine Ex.steps 1 (S' := (10, [], [(0, .int 2), (1, .int 0), (2, .int 2)], [], 0, 0)) rfl ?_
                      refine Ex.steps 2 (S' := (15, [.int 1], [(0, .int 2), (1, .int 0), (2, .int 2)], [], 0, 0)) rfl ?_
                      exact Ex.ret rfl rfl) ?_
                    refine Ex.steps 0 (S' := (14, [.int 1], [(0, .ref 0), (1, .int 2)], hX, 0, 0)) rfl ?_
                    exact Ex.ret rfl rfl) ?_
                  refine Ex.steps 0 (S' := (5, [.int 1], [(0, .ref 0), (1, .int 2), (2, .int x2), (3, .int x3)], hX, 0, 0)) rfl ?_
                  refine Ex.steps 1 (S' := (8, [], [(0, .ref 0), (1, .int 2), (2, .int x2), (3, .int x3)], hX, 0, 0)) rfl ?_
                  refine Ex.steps 3 (S' := (13, [.int 1000000, .int (-1000000), .int x2], [(0, .ref 0), (1, .int 2), (2, .int x2), (3, .int x3)], hX, 0, 0)) rfl ?_
                  refine Ex.call0 (as := [.int x2, .int (-1000000), .int 1000000]) (rest := []) (r := (some (.int 1))) (c1 := 0) (s1 := 0) rfl rfl rfl rfl (by
                    refine Rn.of (me := me12) rfl ⟨Nat.le_of_ble_eq_true rfl, rfl⟩ rfl ?_
                    refine Ex.steps 2 (S' := (2, [.int (-1000000), .int x2], [(0, .int x2), (1, .int (-1000000)), (2, .int 1000000)], [], 0, 0)) rfl ?_
                    refine Ex.icmp rfl (cF_lt h3) rfl ?_
                    refine Ex.steps 2 (S' := (7, [.int 1000000, .int x2], [(0, .int x2), (1, .int (-1000000)), (2, .int 1000000)], [], 0, 0)) rfl ?_
                    refine Ex.icmp rfl (cF_gt h4) rfl ?_
                    refine Ex.steps 2 (S' := (15, [.int 1], [(0, .int x2), (1, .int (-1000000)), (2, .int 1000000)], [], 0, 0)) rfl ?_
                    exact Ex.ret rfl rfl) ?_
                  refine Ex.steps 0 (S' := (16, [.int 1], [(0, .ref 0), (1, .int 2), (2, .int x2), (3, .int x3)], hX, 0, 0)) rfl ?_
                  refine Ex.steps 1 (S' := (19, [], [(0, .ref 0), (1, .int 2), (2, .int x2), (3, .int x3)], hX, 0, 0)) rfl ?_
                  refine Ex.steps 3 (S' := (26, [.int 1000, .int (-1000), .int x3], [(0, .ref 0), (1, .int 2), (2, .int x2), (3, .int x3)], hX, 0, 0)) rfl ?_
                  refine Ex.call0 (as := [.int x3, .int (-1000), .int 1000]) (rest := []) (r := (some (.int 1))) (c1 := 0) (s1 := 0) rfl rfl rfl rfl (by
                    refine Rn.of (me := me12) rfl ⟨Nat.le_of_ble_eq_true rfl, rfl⟩ rfl ?_
                    refine Ex.steps 2 (S' := (2, [.int (-1000), .int x3], [(0, .int x3), (1, .int (-1000)), (2, .int 1000)], [], 0, 0)) rfl ?_
                    refine Ex.icmp rfl (cF_lt h5) rfl ?_
                    refine Ex.steps 2 (S' := (7, [.int 1000, .int x3], [(0, .int x3), (1, .int (-1000)), (2, .int 1000)], [], 0, 0)) rfl ?_
                    refine Ex.icmp rfl (cF_gt h6) rfl ?_
                    refine Ex.steps 2 (S' := (15, [.int 1], [(0, .int x3), (1, .int (-1000)), (2, .int 1000)], [], 0, 0)) rfl ?_
                    exact Ex.ret rfl rfl) ?_
                  refine Ex.steps 0 (S' := (29, [.int 1], [(0, .ref 0), (1, .int 2), (2, .int x2), (3, .int x3)], hX, 0, 0)) rfl ?_
                  refine Ex.steps 1 (S' := (35, [], [(0, .ref 0), (1, .int 2), (2, .int x2), (3, .int x3)], hX, 0, 0)) rfl ?_
                  refine Ex.steps 13 (S' := (56, [.int 1], [(0, .ref 0), (1, .int 2), (2, .int x2), (3, .int x3)], ((hX.set 39 (.inr (0, .inl ((List.replicate 4 0).set 2 x2)))).set 40 (.inr (0, .inl ((List.replicate 4 0).set 2 x3)))), 0, 0)) rfl ?_
                  exact Ex.ret rfl rfl) (by
                  refine Rn.of (me := me221) rfl ⟨Nat.le_of_ble_eq_true rfl, rfl⟩ rfl ?_
                  refine Ex.steps 2 (S' := (2, [.int 2, .ref 0], [(0, .ref 0), (1, .int 2), (2, .int x2), (3, .int x3)], hM, 0, 0)) rfl ?_
                  refine Ex.callX (as := [.int 2]) (rest := []) (r := (some (.int 1))) (c1 := 0) (s1 := 0) rfl rfl rfl rfl xM1 xM2 rfl xM3 xM4 rfl okM (by
                    refine Rn.of (me := me173) rfl ⟨Nat.le_of_ble_eq_true rfl, rfl⟩ rfl ?_
                    refine Ex.steps 8 (S' := (10, [.int 2, .int 0, .int 2], [(0, .ref 0), (1, .int 2)], hM, 0, 0)) rfl ?_
                    refine Ex.call0 (as := [.int 2, .int 0, .int 2]) (rest := []) (r := (some (.int 1))) (c1 := 0) (s1 := 0) rfl rfl rfl rfl (by
                      refine Rn.of (me := me145) rfl ⟨Nat.le_of_ble_eq_true rfl, rfl⟩ rfl ?_
                      refine Ex.steps 2 (S' := (2, [.int 0, .int 2], [(0, .int 2), (1, .int 0), (2, .int 2)], [], 0, 0)) rfl ?_
                      refine Ex.steps 1 (S' := (5, [], [(0, .int 2), (1, .int 0), (2, .int 2)], [], 0, 0)) rfl ?_
                      refine Ex.steps 2 (S' := (7, [.int 2, .int 2], [(0, .int 2), (1, .int 0), (2, .int 2)], [], 0, 0)) rfl ?_
                      refine Ex.steps 1 (S' := (10, [], [(0, .int 2), (1, .int 0), (2, .int 2)], [], 0, 0)) rfl ?_
                      refine Ex.steps 2 (S' := (15, [.int 1], [(0, .int 2), (1, .int 0), (2, .int 2)], [], 0, 0)) rfl ?_
                      exact Ex.ret rfl rfl) ?_
                    refine Ex.steps 0 (S' := (13, [.int 1], [(0, .ref 0), (1, .int 2)], hM, 0, 0)) rfl ?_
                    exact Ex.ret rfl rfl) ?_
                  refine Ex.steps 0 (S' := (5, [.int 1], [(0, .ref 0), (1, .int 2), (2, .int x2), (3, .int x3)], hM, 0, 0)) rfl ?_
                  refine Ex.steps 1 (S' := (8, [], [(0, .ref 0), (1, .int 2), (2, .int x2), (3, .int x3)], hM, 0, 0)) rfl ?_
                  refine Ex.steps 3 (S' := (13, [.int 1000000, .int (-1000000), .int x2], [(0, .ref 0), (1, .int 2), (2, .int x2), (3, .int x3)], hM, 0, 0)) rfl ?_
                  refine Ex.call0 (as := [.int x2, .int (-1000000), .int 1000000]) (rest := []) (r := (some (.int 1))) (c1 := 0) (s1 := 0) rfl rfl rfl rfl (by
                    refine Rn.of (me := me145) rfl ⟨Nat.le_of_ble_eq_true rfl, rfl⟩ rfl ?_
                    refine Ex.steps 2 (S' := (2, [.int (-1000000), .int x2], [(0, .int x2), (1, .int (-1000000)), (2, .int 1000000)], [], 0, 0)) rfl ?_
                    refine Ex.icmp rfl (cF_lt h3) rfl ?_
                    refine Ex.steps 2 (S' := (7, [.int 1000000, .int x2], [(0, .int x2), (1, .int (-1000000)), (2, .int 1000000)], [], 0, 0)) rfl ?_
                    refine Ex.icmp rfl (cF_gt h4) rfl ?_
                    refine Ex.steps 2 (S' := (15, [.int 1], [(0, .int x2), (1, .int (-1000000)), (2, .int 1000000)], [], 0, 0)) rfl ?_
                    exact Ex.ret rfl rfl) ?_
                  refine Ex.steps 0 (S' := (16, [.int 1], [(0, .ref 0), (1, .int 2), (2, .int x2), (3, .int x3)], hM, 0, 0)) rfl ?_
                  refine Ex.steps 1 (S' := (19, [], [(0, .ref 0), (1, .int 2), (2, .int x2), (3, .int x3)], hM, 0, 0)) rfl ?_
                  refine Ex.steps 3 (S' := (26, [.int 1000, .int (-1000), .int x3], [(0, .ref 0), (1, .int 2), (2, .int x2), (3, .int x3)], hM, 0, 0)) rfl ?_
                  refine Ex.call0 (as := [.int x3, .int (-1000), .int 1000]) (rest := []) (r := (some (.int 1))) (c1 := 0) (s1 := 0) rfl rfl rfl rfl (by
                    refine Rn.of (me := me145) rfl ⟨Nat.le_of_ble_eq_true rfl, rfl⟩ rfl ?_
                    refine Ex.steps 2 (S' := (2, [.int (-1000), .int x3], [(0, .int x3), (1, .int (-1000)), (2, .int 1000)], [], 0, 0)) rfl ?_
                    refine Ex.icmp rfl (cF_lt h5) rfl ?_
                    refine Ex.steps 2 (S' := (7, [.int 1000, .int x3], [(0, .int x3), (1, .int (-1000)), (2, .int 1000)], [], 0, 0)) rfl ?_
                    refine Ex.icmp rfl (cF_gt h6) rfl ?_
                    refine Ex.steps 2 (S' := (15, [.int 1], [(0, .int x3), (1, .int (-1000)), (2, .int 1000)], [], 0, 0)) rfl ?_
                    exact Ex.ret rfl rfl) ?_
                  refine Ex.steps 0 (S' := (29, [.int 1], [(0, .ref 0), (1, .int 2), (2, .int x2), (3, .int x3)], hM, 0, 0)) rfl ?_
                  refine Ex.steps 1 (S' := (35, [], [(0, .ref 0), (1, .int 2), (2, .int x2), (3, .int x3)], hM, 0, 0)) rfl ?_
                  refine Ex.steps 21 (S' := (64, [.int 1], [(0, .ref 0), (1, .int 2), (2, .int x2), (3, .int x3)], ((hM.set 1 (.inr (0, .inl ([3, 0, 0, 0, 0, 0, 0, 0, 3, 5, 0, 0, 0, 0, 0, 0, 0, 100, 0, 0, (-1), 0, 0, 0, 0, 0, 0, 0, 0, 0, 0, 0, 0, 0, 0, 0, 0, 0, 0, 0, 0, 0, 1, 0, 0, 0, 0, 0, 0, 0, 0, 0, 0, 0, 0, 0, 0, 0, 0, 0, 0, 0, 0, 0, 0, 0, 0, 0, 0, 0, 0, 0, 0, 0, 0, 0, 0, 0, 0, 0, 0, 0, 1, 0, 0, 0, 0, 0, 0, 0, 0, 0, 0, 0, 0, 0, 0, 0, 0, 0, 0, 0, 0, 0, 0, 0, 0, 0, 0, 0, 0, 0, 0, 0, 0, 0, 0, 0, 0, 0, 0, 0, 1, 0, 0, 0, 0, 0, 0, 0, 0, 0, 0, 0, 0, 0, 0, 0, 0, 0, 0, 0, 0, 0, 0, 0, 0, 0, 0, 0, 0, 0, 0, 0, 0, 0, 0, 0, 0, 0, 0, 0, 1, 0, 0, 0, 0, 0, 0, 0, 0, 0, 0, 0, 0, 0, 0, 0, 0, 0, 0, 0, 0, 0, 0, 0, 0, 0, 0, 0, 0, 0, 0, 0, 0, 0, 0, 0, 0, 0, 0, 0, 0, 0, 0, 0, 0, 0, 0, 0, 0, 0, 0, 0, 0, 0, 0, 0, 0, 0, 0, 0, 0, 0, 0, 0, 0, 0, 0, 0, 0, 0, 0, 0, 0, 0, 0, 0, 0, 0, 0, 0, 0, 0, 0, 0, 0, 0, 0, 0, 0, 0, 0, 0, 0, 0, 0, 0, 0, 0, 0, 0, 0, 0, 0, 0, 0, 0, 0, 0, 0, 0, 0, 0, 0, 0, 0, 0, 0, 0, 0, 0, 0, 0, 0, 0, 0, 0, 0, 0, 0, 0, 0, 0, 0, 0, 0, 0, 0, 0, 0, 0, 0, 0, 0, 0, 0, 0, 0, 0, 0, 0, 0, 0, 0, 0, 0, 0, 0, 0, 0, 0, 0, 0, 0, 0, 0, 0, 0, 0, 0, 0, 0, 0, 0, 0, 0, 0, 0, 0, 0, 0, 0, 0, 0, 0, 0, 0, 0, 0, 0, 0, 0, 0, 0, 0, 0, 0, 0, 0, 0, 0, 0, 0, 0, 0, 0, 0, 0, 0, 0, 0, 0, 0, 0, 0, 0, 0, 0, 0, 0, 0, 0, 0, 0, 0, 0, 0, 0, 0, 0, 0, 0, 0, 0, 0, 0, 0, 0, 0, 0, 0, 0, 0, 0, 0, 0, 0, 0, 0, 0, 0, 0, 0, 0, 0, 0, 0, 0, 0, 0, 0, 0, 0, 0, 0, 0, 0, 0, 0, 0, 0, 0, 0, 0, 0, 0, 0, 0, 0, 0, 0, 0, 0, 0, 0, 0, 0, 0, 0, 0, 0, 0, 0, 0, 0, 0, 0, 0, 0, 0, 0, 0, 0, 0, 0, 0, 0, 0, 0, 0, 0, 0, 0, 0, 0, 0, 0, 0, 0, 0, 0, 0, 0, 0, 0, 0, 0, 0, 0, 0, 0, 0, 0, 0, 0, 0, 0, 0, 0, 0, 0, 0, 0, 0, 0, 0, 0, 0, 0, 0, 0, 0, 0, 0, 0, 0, 0, 0, 0, 0, 0, 0, 0, 0, 0, 0, 0, 0, 0, 0, 0, 0, 0, 0, 0, 0, 0, 0, 0, 0, 0, 0, 0, 0, 0, 0, 0, 0, 0, 0, 0, 0, 0, 0, 0, 0, 0, 0, 0, 0, 0, 0, 0, 0, 0, 0, 0, 0, 0, 0, 0, 0, 0, 0, 0, 0, 0, 0, 0, 0, 0, 0, 0, 0, 0, 0, 0, 0, 0, 0, 0, 0, 0, 0, 0, 0, 0, 0, 0, 0, 0, 0, 0, 0, 0, 0, 0, 0, 0, 0, 0, 0, 0, 0, 0, 0, 0, 0, 0, 0, 0, 0, 0, 0, 0, 0, 0, 0, 0, 0, 0, 0, 0, 0, 0, 0, 0, 0, 0, 0, 0, 0, 0, 0, 0, 0, 0, 0, 0, 0, 0, 0, 0, 0, 0, 0, 0, 0, 0, 0, 0, 0, 0, 0, 0, 0, 0, 0, 0, 0, 0, 0, 0, 0, 0, 0, 0, 0, 0, 0, 0, 0, 0, 0, 0, 0, 0, 0, 0, 0, 0, 0, 0, 0, 0, 0, 0, 0, 0, 0, 0, 0, 0, 0, 0, 0, 0, 0, 0, 0, 0, 0, 0, 0, 0, 0, 0, 0, 0, 0, 0, 0, 0, 0, 0, 0, 0, 0, 0, 0, 0, 0, 0, 0, 0, 0, 0, 0, 0, 0, 0, 0, 0, 0, 0, 0, 0, 0, 0, 0, 0, 0, 0, 0, 0, 0, 0, 0, 0, 0, 0, 0, 0, 0, 0, 0, 0, 0, 0, 0, 0, 0, 0, 0, 0, 0, 0, 0, 0, 0, 0, 0, 0, (-100), 100, (-100), 100, (-100), 100, (-100), 100, 0, 0, 0, 0, 0, 0, 0, 0, 0, 0, 0, 0, 0, 0, 0, 0, 0, 0, 0, 0, 0, 0, 0, 0, 0, 0, 0, 0, 0, 0, 0, 0, 0, 0, 0, 0, 0, 0, 0, 0, 0, 0, 0, 0, 0, 0, 0, 0, 0, 0, 0, 0, 0, 0, 0, 0, 0, 0, 0, 0, 0, 0, 0, 0, 0, 0, 0, 0, 0, 0, 0, 0, 0, 0, 0, 0, 0, 0, 0, 0, 0, 0, 0, 0, 0, 0, 0, 0, 0, 0, 0, 0, 0, 0, 0, 0, 0, 0, 0, 0, 0, 0, 0, 0, 0, 0, 0, 0, 0, 0, 0, 0, 0, 0, 0, 0, 0, 0].set 906 x2)))).set 1 (.inr (0, .inl (([3, 0, 0, 0, 0, 0, 0, 0, 3, 5, 0, 0, 0, 0, 0, 0, 0, 100, 0, 0, (-1), 0, 0, 0, 0, 0, 0, 0, 0, 0, 0, 0, 0, 0, 0, 0, 0, 0, 0, 0, 0, 0, 1, 0, 0, 0, 0, 0, 0, 0, 0, 0, 0, 0, 0, 0, 0, 0, 0, 0, 0, 0, 0, 0, 0, 0, 0, 0, 0, 0, 0, 0, 0, 0, 0, 0, 0, 0, 0, 0, 0, 0, 1, 0, 0, 0, 0, 0, 0, 0, 0, 0, 0, 0, 0, 0, 0, 0, 0, 0, 0, 0, 0, 0, 0, 0, 0, 0, 0, 0, 0, 0, 0, 0, 0, 0, 0, 0, 0, 0, 0, 0, 1, 0, 0, 0, 0, 0, 0, 0, 0, 0, 0, 0, 0, 0, 0, 0, 0, 0, 0, 0, 0, 0, 0, 0, 0, 0, 0, 0, 0, 0, 0, 0, 0, 0, 0, 0, 0, 0, 0, 0, 1, 0, 0, 0, 0, 0, 0, 0, 0, 0, 0, 0, 0, 0, 0, 0, 0, 0, 0, 0, 0, 0, 0, 0, 0, 0, 0, 0, 0, 0, 0, 0, 0, 0, 0, 0, 0, 0, 0, 0, 0, 0, 0, 0, 0, 0, 0, 0, 0, 0, 0, 0, 0, 0, 0, 0, 0, 0, 0, 0, 0, 0, 0, 0, 0, 0, 0, 0, 0, 0, 0, 0, 0, 0, 0, 0, 0, 0, 0, 0, 0, 0, 0, 0, 0, 0, 0, 0, 0, 0, 0, 0, 0, 0, 0, 0, 0, 0, 0, 0, 0, 0, 0, 0, 0, 0, 0, 0, 0, 0, 0, 0, 0, 0, 0, 0, 0, 0, 0, 0, 0, 0, 0, 0, 0, 0, 0, 0, 0, 0, 0, 0, 0, 0, 0, 0, 0, 0, 0, 0, 0, 0, 0, 0, 0, 0, 0, 0, 0, 0, 0, 0, 0, 0, 0, 0, 0, 0, 0, 0, 0, 0, 0, 0, 0, 0, 0, 0, 0, 0, 0, 0, 0, 0, 0, 0, 0, 0, 0, 0, 0, 0, 0, 0, 0, 0, 0, 0, 0, 0, 0, 0, 0, 0, 0, 0, 0, 0, 0, 0, 0, 0, 0, 0, 0, 0, 0, 0, 0, 0, 0, 0, 0, 0, 0, 0, 0, 0, 0, 0, 0, 0, 0, 0, 0, 0, 0, 0, 0, 0, 0, 0, 0, 0, 0, 0, 0, 0, 0, 0, 0, 0, 0, 0, 0, 0, 0, 0, 0, 0, 0, 0, 0, 0, 0, 0, 0, 0, 0, 0, 0, 0, 0, 0, 0, 0, 0, 0, 0, 0, 0, 0, 0, 0, 0, 0, 0, 0, 0, 0, 0, 0, 0, 0, 0, 0, 0, 0, 0, 0, 0, 0, 0, 0, 0, 0, 0, 0, 0, 0, 0, 0, 0, 0, 0, 0, 0, 0, 0, 0, 0, 0, 0, 0, 0, 0, 0, 0, 0, 0, 0, 0, 0, 0, 0, 0, 0, 0, 0, 0, 0, 0, 0, 0, 0, 0, 0, 0, 0, 0, 0, 0, 0, 0, 0, 0, 0, 0, 0, 0, 0, 0, 0, 0, 0, 0, 0, 0, 0, 0, 0, 0, 0, 0, 0, 0, 0, 0, 0, 0, 0, 0, 0, 0, 0, 0, 0, 0, 0, 0, 0, 0, 0, 0, 0, 0, 0, 0, 0, 0, 0, 0, 0, 0, 0, 0, 0, 0, 0, 0, 0, 0, 0, 0, 0, 0, 0, 0, 0, 0, 0, 0, 0, 0, 0, 0, 0, 0, 0, 0, 0, 0, 0, 0, 0, 0, 0, 0, 0, 0, 0, 0, 0, 0, 0, 0, 0, 0, 0, 0, 0, 0, 0, 0, 0, 0, 0, 0, 0, 0, 0, 0, 0, 0, 0, 0, 0, 0, 0, 0, 0, 0, 0, 0, 0, 0, 0, 0, 0, 0, 0, 0, 0, 0, 0, 0, 0, 0, 0, 0, 0, 0, 0, 0, 0, 0, 0, 0, 0, 0, 0, 0, 0, 0, 0, 0, 0, 0, 0, 0, 0, 0, 0, 0, 0, 0, 0, 0, 0, 0, 0, 0, 0, 0, 0, 0, 0, 0, 0, 0, 0, 0, 0, 0, 0, 0, 0, 0, 0, 0, 0, 0, 0, 0, 0, 0, 0, 0, 0, 0, 0, 0, 0, 0, 0, 0, 0, 0, 0, 0, 0, 0, 0, 0, 0, 0, 0, 0, 0, 0, 0, 0, 0, 0, 0, 0, 0, 0, 0, 0, 0, 0, 0, 0, 0, 0, 0, 0, 0, 0, 0, 0, 0, 0, 0, 0, 0, 0, 0, 0, 0, 0, 0, 0, 0, 0, 0, 0, 0, 0, 0, 0, 0, 0, 0, 0, 0, 0, 0, 0, 0, 0, 0, 0, 0, 0, 0, 0, 0, 0, 0, 0, (-100), 100, (-100), 100, (-100), 100, (-100), 100, 0, 0, 0, 0, 0, 0, 0, 0, 0, 0, 0, 0, 0, 0, 0, 0, 0, 0, 0, 0, 0, 0, 0, 0, 0, 0, 0, 0, 0, 0, 0, 0, 0, 0, 0, 0, 0, 0, 0, 0, 0, 0, 0, 0, 0, 0, 0, 0, 0, 0, 0, 0, 0, 0, 0, 0, 0, 0, 0, 0, 0, 0, 0, 0, 0, 0, 0, 0, 0, 0, 0, 0, 0, 0, 0, 0, 0, 0, 0, 0, 0, 0, 0, 0, 0, 0, 0, 0, 0, 0, 0, 0, 0, 0, 0, 0, 0, 0, 0, 0, 0, 0, 0, 0, 0, 0, 0, 0, 0, 0, 0, 0, 0, 0, 0, 0, 0, 0].set 906 x2).set 907 x3)))), 0, 0)) rfl ?_
                  exact Ex.ret rfl rfl) (by decide)
              | k7 + 3, h => exact absurd h (by omega)
