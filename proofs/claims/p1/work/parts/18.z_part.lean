/-! ===== both answer alike: part ===== -/
set_option maxHeartbeats 8000000 in
set_option maxRecDepth 100000 in
theorem both_part (x1 x2 x3 : Int32) : BothI 19 149 [.int x1, .int x2, .int x3] := by
  by_cases h1 : (x1 : Int32) < 0
  ·
    exact mkI (x := (-2)) (c1 := 0) (s1 := 0) (c2 := 0) (s2 := 0) (by
      refine Rn.of (me := me19) rfl ⟨Nat.le_of_ble_eq_true rfl, rfl⟩ rfl ?_
      refine Ex.steps 3 (S' := (3, [.int 5, .int 0, .int x1], [(0, .ref 0), (1, .int x1), (2, .int x2), (3, .int x3)], hX, 0, 0)) rfl ?_
      refine Ex.call0 (as := [.int x1, .int 0, .int 5]) (rest := []) (r := (some (.int 0))) (c1 := 0) (s1 := 0) rfl rfl rfl rfl (by
        refine Rn.of (me := me12) rfl ⟨Nat.le_of_ble_eq_true rfl, rfl⟩ rfl ?_
        refine Ex.steps 2 (S' := (2, [.int 0, .int x1], [(0, .int x1), (1, .int 0), (2, .int 5)], [], 0, 0)) rfl ?_
        refine Ex.icmp rfl (cT_lt h1) rfl ?_
        refine Ex.steps 1 (S' := (15, [.int 0], [(0, .int x1), (1, .int 0), (2, .int 5)], [], 0, 0)) rfl ?_
        exact Ex.ret rfl rfl) ?_
      refine Ex.steps 0 (S' := (6, [.int 0], [(0, .ref 0), (1, .int x1), (2, .int x2), (3, .int x3)], hX, 0, 0)) rfl ?_
      refine Ex.steps 1 (S' := (29, [], [(0, .ref 0), (1, .int x1), (2, .int x2), (3, .int x3)], hX, 0, 0)) rfl ?_
      refine Ex.steps 1 (S' := (31, [.int (-2)], [(0, .ref 0), (1, .int x1), (2, .int x2), (3, .int x3)], hX, 0, 0)) rfl ?_
      exact Ex.ret rfl rfl) (by
      refine Rn.of (me := me149) rfl ⟨Nat.le_of_ble_eq_true rfl, rfl⟩ rfl ?_
      refine Ex.steps 3 (S' := (3, [.int 5, .int 0, .int x1], [(0, .ref 0), (1, .int x1), (2, .int x2), (3, .int x3)], hM, 0, 0)) rfl ?_
      refine Ex.call0 (as := [.int x1, .int 0, .int 5]) (rest := []) (r := (some (.int 0))) (c1 := 0) (s1 := 0) rfl rfl rfl rfl (by
        refine Rn.of (me := me145) rfl ⟨Nat.le_of_ble_eq_true rfl, rfl⟩ rfl ?_
        refine Ex.steps 2 (S' := (2, [.int 0, .int x1], [(0, .int x1), (1, .int 0), (2, .int 5)], [], 0, 0)) rfl ?_
        refine Ex.icmp rfl (cT_lt h1) rfl ?_
        refine Ex.steps 1 (S' := (15, [.int 0], [(0, .int x1), (1, .int 0), (2, .int 5)], [], 0, 0)) rfl ?_
        exact Ex.ret rfl rfl) ?_
      refine Ex.steps 0 (S' := (6, [.int 0], [(0, .ref 0), (1, .int x1), (2, .int x2), (3, .int x3)], hM, 0, 0)) rfl ?_
      refine Ex.steps 1 (S' := (29, [], [(0, .ref 0), (1, .int x1), (2, .int x2), (3, .int x3)], hM, 0, 0)) rfl ?_
      refine Ex.steps 1 (S' := (31, [.int (-2)], [(0, .ref 0), (1, .int x1), (2, .int x2), (3, .int x3)], hM, 0, 0)) rfl ?_
      exact Ex.ret rfl rfl) (by decide)
  ·
    by_cases h2 : (5 : Int32) < x1
    ·
      exact mkI (x := (-2)) (c1 := 0) (s1 := 0) (c2 := 0) (s2 := 0) (by
        refine Rn.of (me := me19) rfl ⟨Nat.le_of_ble_eq_true rfl, rfl⟩ rfl ?_
        refine Ex.steps 3 (S' := (3, [.int 5, .int 0, .int x1], [(0, .ref 0), (1, .int x1), (2, .int x2), (3, .int x3)], hX, 0, 0)) rfl ?_
        refine Ex.call0 (as := [.int x1, .int 0, .int 5]) (rest := []) (r := (some (.int 0))) (c1 := 0) (s1 := 0) rfl rfl rfl rfl (by
          refine Rn.of (me := me12) rfl ⟨Nat.le_of_ble_eq_true rfl, rfl⟩ rfl ?_
          refine Ex.steps 2 (S' := (2, [.int 0, .int x1], [(0, .int x1), (1, .int 0), (2, .int 5)], [], 0, 0)) rfl ?_
          refine Ex.icmp rfl (cF_lt h1) rfl ?_
          refine Ex.steps 2 (S' := (7, [.int 5, .int x1], [(0, .int x1), (1, .int 0), (2, .int 5)], [], 0, 0)) rfl ?_
          refine Ex.icmp rfl (cT_gt h2) rfl ?_
          refine Ex.steps 1 (S' := (15, [.int 0], [(0, .int x1), (1, .int 0), (2, .int 5)], [], 0, 0)) rfl ?_
          exact Ex.ret rfl rfl) ?_
        refine Ex.steps 0 (S' := (6, [.int 0], [(0, .ref 0), (1, .int x1), (2, .int x2), (3, .int x3)], hX, 0, 0)) rfl ?_
        refine Ex.steps 1 (S' := (29, [], [(0, .ref 0), (1, .int x1), (2, .int x2), (3, .int x3)], hX, 0, 0)) rfl ?_
        refine Ex.steps 1 (S' := (31, [.int (-2)], [(0, .ref 0), (1, .int x1), (2, .int x2), (3, .int x3)], hX, 0, 0)) rfl ?_
        exact Ex.ret rfl rfl) (by
        refine Rn.of (me := me149) rfl ⟨Nat.le_of_ble_eq_true rfl, rfl⟩ rfl ?_
        refine Ex.steps 3 (S' := (3, [.int 5, .int 0, .int x1], [(0, .ref 0), (1, .int x1), (2, .int x2), (3, .int x3)], hM, 0, 0)) rfl ?_
        refine Ex.call0 (as := [.int x1, .int 0, .int 5]) (rest := []) (r := (some (.int 0))) (c1 := 0) (s1 := 0) rfl rfl rfl rfl (by
          refine Rn.of (me := me145) rfl ⟨Nat.le_of_ble_eq_true rfl, rfl⟩ rfl ?_
          refine Ex.steps 2 (S' := (2, [.int 0, .int x1], [(0, .int x1), (1, .int 0), (2, .int 5)], [], 0, 0)) rfl ?_
          refine Ex.icmp rfl (cF_lt h1) rfl ?_
          refine Ex.steps 2 (S' := (7, [.int 5, .int x1], [(0, .int x1), (1, .int 0), (2, .int 5)], [], 0, 0)) rfl ?_
          refine Ex.icmp rfl (cT_gt h2) rfl ?_
          refine Ex.steps 1 (S' := (15, [.int 0], [(0, .int x1), (1, .int 0), (2, .int 5)], [], 0, 0)) rfl ?_
          exact Ex.ret rfl rfl) ?_
        refine Ex.steps 0 (S' := (6, [.int 0], [(0, .ref 0), (1, .int x1), (2, .int x2), (3, .int x3)], hM, 0, 0)) rfl ?_
        refine Ex.steps 1 (S' := (29, [], [(0, .ref 0), (1, .int x1), (2, .int x2), (3, .int x3)], hM, 0, 0)) rfl ?_
        refine Ex.steps 1 (S' := (31, [.int (-2)], [(0, .ref 0), (1, .int x1), (2, .int x2), (3, .int x3)], hM, 0, 0)) rfl ?_
        exact Ex.ret rfl rfl) (by decide)
    ·
      by_cases h3 : (x2 : Int32) < 0
      ·
        exact mkI (x := (-2)) (c1 := 0) (s1 := 0) (c2 := 0) (s2 := 0) (by
          refine Rn.of (me := me19) rfl ⟨Nat.le_of_ble_eq_true rfl, rfl⟩ rfl ?_
          refine Ex.steps 3 (S' := (3, [.int 5, .int 0, .int x1], [(0, .ref 0), (1, .int x1), (2, .int x2), (3, .int x3)], hX, 0, 0)) rfl ?_
          refine Ex.call0 (as := [.int x1, .int 0, .int 5]) (rest := []) (r := (some (.int 1))) (c1 := 0) (s1 := 0) rfl rfl rfl rfl (by
            refine Rn.of (me := me12) rfl ⟨Nat.le_of_ble_eq_true rfl, rfl⟩ rfl ?_
            refine Ex.steps 2 (S' := (2, [.int 0, .int x1], [(0, .int x1), (1, .int 0), (2, .int 5)], [], 0, 0)) rfl ?_
            refine Ex.icmp rfl (cF_lt h1) rfl ?_
            refine Ex.steps 2 (S' := (7, [.int 5, .int x1], [(0, .int x1), (1, .int 0), (2, .int 5)], [], 0, 0)) rfl ?_
            refine Ex.icmp rfl (cF_gt h2) rfl ?_
            refine Ex.steps 2 (S' := (15, [.int 1], [(0, .int x1), (1, .int 0), (2, .int 5)], [], 0, 0)) rfl ?_
            exact Ex.ret rfl rfl) ?_
          refine Ex.steps 0 (S' := (6, [.int 1], [(0, .ref 0), (1, .int x1), (2, .int x2), (3, .int x3)], hX, 0, 0)) rfl ?_
          refine Ex.steps 1 (S' := (9, [], [(0, .ref 0), (1, .int x1), (2, .int x2), (3, .int x3)], hX, 0, 0)) rfl ?_
          refine Ex.steps 3 (S' := (13, [.int 60, .int 0, .int x2], [(0, .ref 0), (1, .int x1), (2, .int x2), (3, .int x3)], hX, 0, 0)) rfl ?_
          refine Ex.call0 (as := [.int x2, .int 0, .int 60]) (rest := []) (r := (some (.int 0))) (c1 := 0) (s1 := 0) rfl rfl rfl rfl (by
            refine Rn.of (me := me12) rfl ⟨Nat.le_of_ble_eq_true rfl, rfl⟩ rfl ?_
            refine Ex.steps 2 (S' := (2, [.int 0, .int x2], [(0, .int x2), (1, .int 0), (2, .int 60)], [], 0, 0)) rfl ?_
            refine Ex.icmp rfl (cT_lt h3) rfl ?_
            refine Ex.steps 1 (S' := (15, [.int 0], [(0, .int x2), (1, .int 0), (2, .int 60)], [], 0, 0)) rfl ?_
            exact Ex.ret rfl rfl) ?_
          refine Ex.steps 0 (S' := (16, [.int 0], [(0, .ref 0), (1, .int x1), (2, .int x2), (3, .int x3)], hX, 0, 0)) rfl ?_
          refine Ex.steps 1 (S' := (29, [], [(0, .ref 0), (1, .int x1), (2, .int x2), (3, .int x3)], hX, 0, 0)) rfl ?_
          refine Ex.steps 1 (S' := (31, [.int (-2)], [(0, .ref 0), (1, .int x1), (2, .int x2), (3, .int x3)], hX, 0, 0)) rfl ?_
          exact Ex.ret rfl rfl) (by
          refine Rn.of (me := me149) rfl ⟨Nat.le_of_ble_eq_true rfl, rfl⟩ rfl ?_
          refine Ex.steps 3 (S' := (3, [.int 5, .int 0, .int x1], [(0, .ref 0), (1, .int x1), (2, .int x2), (3, .int x3)], hM, 0, 0)) rfl ?_
          refine Ex.call0 (as := [.int x1, .int 0, .int 5]) (rest := []) (r := (some (.int 1))) (c1 := 0) (s1 := 0) rfl rfl rfl rfl (by
            refine Rn.of (me := me145) rfl ⟨Nat.le_of_ble_eq_true rfl, rfl⟩ rfl ?_
            refine Ex.steps 2 (S' := (2, [.int 0, .int x1], [(0, .int x1), (1, .int 0), (2, .int 5)], [], 0, 0)) rfl ?_
            refine Ex.icmp rfl (cF_lt h1) rfl ?_
            refine Ex.steps 2 (S' := (7, [.int 5, .int x1], [(0, .int x1), (1, .int 0), (2, .int 5)], [], 0, 0)) rfl ?_
            refine Ex.icmp rfl (cF_gt h2) rfl ?_
            refine Ex.steps 2 (S' := (15, [.int 1], [(0, .int x1), (1, .int 0), (2, .int 5)], [], 0, 0)) rfl ?_
            exact Ex.ret rfl rfl) ?_
          refine Ex.steps 0 (S' := (6, [.int 1], [(0, .ref 0), (1, .int x1), (2, .int x2), (3, .int x3)], hM, 0, 0)) rfl ?_
          refine Ex.steps 1 (S' := (9, [], [(0, .ref 0), (1, .int x1), (2, .int x2), (3, .int x3)], hM, 0, 0)) rfl ?_
          refine Ex.steps 3 (S' := (13, [.int 60, .int 0, .int x2], [(0, .ref 0), (1, .int x1), (2, .int x2), (3, .int x3)], hM, 0, 0)) rfl ?_
          refine Ex.call0 (as := [.int x2, .int 0, .int 60]) (rest := []) (r := (some (.int 0))) (c1 := 0) (s1 := 0) rfl rfl rfl rfl (by
            refine Rn.of (me := me145) rfl ⟨Nat.le_of_ble_eq_true rfl, rfl⟩ rfl ?_
            refine Ex.steps 2 (S' := (2, [.int 0, .int x2], [(0, .int x2), (1, .int 0), (2, .int 60)], [], 0, 0)) rfl ?_
            refine Ex.icmp rfl (cT_lt h3) rfl ?_
            refine Ex.steps 1 (S' := (15, [.int 0], [(0, .int x2), (1, .int 0), (2, .int 60)], [], 0, 0)) rfl ?_
            exact Ex.ret rfl rfl) ?_
          refine Ex.steps 0 (S' := (16, [.int 0], [(0, .ref 0), (1, .int x1), (2, .int x2), (3, .int x3)], hM, 0, 0)) rfl ?_
          refine Ex.steps 1 (S' := (29, [], [(0, .ref 0), (1, .int x1), (2, .int x2), (3, .int x3)], hM, 0, 0)) rfl ?_
          refine Ex.steps 1 (S' := (31, [.int (-2)], [(0, .ref 0), (1, .int x1), (2, .int x2), (3, .int x3)], hM, 0, 0)) rfl ?_
          exact Ex.ret rfl rfl) (by decide)
      ·
        by_cases h4 : (60 : Int32) < x2
        ·
          exact mkI (x := (-2)) (c1 := 0) (s1 := 0) (c2 := 0) (s2 := 0) (by
            refine Rn.of (me := me19) rfl ⟨Nat.le_of_ble_eq_true rfl, rfl⟩ rfl ?_
            refine Ex.steps 3 (S' := (3, [.int 5, .int 0, .int x1], [(0, .ref 0), (1, .int x1), (2, .int x2), (3, .int x3)], hX, 0, 0)) rfl ?_
            refine Ex.call0 (as := [.int x1, .int 0, .int 5]) (rest := []) (r := (some (.int 1))) (c1 := 0) (s1 := 0) rfl rfl rfl rfl (by
              refine Rn.of (me := me12) rfl ⟨Nat.le_of_ble_eq_true rfl, rfl⟩ rfl ?_
              refine Ex.steps 2 (S' := (2, [.int 0, .int x1], [(0, .int x1), (1, .int 0), (2, .int 5)], [], 0, 0)) rfl ?_
              refine Ex.icmp rfl (cF_lt h1) rfl ?_
              refine Ex.steps 2 (S' := (7, [.int 5, .int x1], [(0, .int x1), (1, .int 0), (2, .int 5)], [], 0, 0)) rfl ?_
              refine Ex.icmp rfl (cF_gt h2) rfl ?_
              refine Ex.steps 2 (S' := (15, [.int 1], [(0, .int x1), (1, .int 0), (2, .int 5)], [], 0, 0)) rfl ?_
              exact Ex.ret rfl rfl) ?_
            refine Ex.steps 0 (S' := (6, [.int 1], [(0, .ref 0), (1, .int x1), (2, .int x2), (3, .int x3)], hX, 0, 0)) rfl ?_
            refine Ex.steps 1 (S' := (9, [], [(0, .ref 0), (1, .int x1), (2, .int x2), (3, .int x3)], hX, 0, 0)) rfl ?_
            refine Ex.steps 3 (S' := (13, [.int 60, .int 0, .int x2], [(0, .ref 0), (1, .int x1), (2, .int x2), (3, .int x3)], hX, 0, 0)) rfl ?_
            refine Ex.call0 (as := [.int x2, .int 0, .int 60]) (rest := []) (r := (some (.int 0))) (c1 := 0) (s1 := 0) rfl rfl rfl rfl (by
              refine Rn.of (me := me12) rfl ⟨Nat.le_of_ble_eq_true rfl, rfl⟩ rfl ?_
              refine Ex.steps 2 (S' := (2, [.int 0, .int x2], [(0, .int x2), (1, .int 0), (2, .int 60)], [], 0, 0)) rfl ?_
              refine Ex.icmp rfl (cF_lt h3) rfl ?_
              refine Ex.steps 2 (S' := (7, [.int 60, .int x2], [(0, .int x2), (1, .int 0), (2, .int 60)], [], 0, 0)) rfl ?_
              refine Ex.icmp rfl (cT_gt h4) rfl ?_
              refine Ex.steps 1 (S' := (15, [.int 0], [(0, .int x2), (1, .int 0), (2, .int 60)], [], 0, 0)) rfl ?_
              exact Ex.ret rfl rfl) ?_
            refine Ex.steps 0 (S' := (16, [.int 0], [(0, .ref 0), (1, .int x1), (2, .int x2), (3, .int x3)], hX, 0, 0)) rfl ?_
            refine Ex.steps 1 (S' := (29, [], [(0, .ref 0), (1, .int x1), (2, .int x2), (3, .int x3)], hX, 0, 0)) rfl ?_
            refine Ex.steps 1 (S' := (31, [.int (-2)], [(0, .ref 0), (1, .int x1), (2, .int x2), (3, .int x3)], hX, 0, 0)) rfl ?_
            exact Ex.ret rfl rfl) (by
            refine Rn.of (me := me149) rfl ⟨Nat.le_of_ble_eq_true rfl, rfl⟩ rfl ?_
            refine Ex.steps 3 (S' := (3, [.int 5, .int 0, .int x1], [(0, .ref 0), (1, .int x1), (2, .int x2), (3, .int x3)], hM, 0, 0)) rfl ?_
            refine Ex.call0 (as := [.int x1, .int 0, .int 5]) (rest := []) (r := (some (.int 1))) (c1 := 0) (s1 := 0) rfl rfl rfl rfl (by
              refine Rn.of (me := me145) rfl ⟨Nat.le_of_ble_eq_true rfl, rfl⟩ rfl ?_
              refine Ex.steps 2 (S' := (2, [.int 0, .int x1], [(0, .int x1), (1, .int 0), (2, .int 5)], [], 0, 0)) rfl ?_
              refine Ex.icmp rfl (cF_lt h1) rfl ?_
              refine Ex.steps 2 (S' := (7, [.int 5, .int x1], [(0, .int x1), (1, .int 0), (2, .int 5)], [], 0, 0)) rfl ?_
              refine Ex.icmp rfl (cF_gt h2) rfl ?_
              refine Ex.steps 2 (S' := (15, [.int 1], [(0, .int x1), (1, .int 0), (2, .int 5)], [], 0, 0)) rfl ?_
              exact Ex.ret rfl rfl) ?_
            refine Ex.steps 0 (S' := (6, [.int 1], [(0, .ref 0), (1, .int x1), (2, .int x2), (3, .int x3)], hM, 0, 0)) rfl ?_
            refine Ex.steps 1 (S' := (9, [], [(0, .ref 0), (1, .int x1), (2, .int x2), (3, .int x3)], hM, 0, 0)) rfl ?_
            refine Ex.steps 3 (S' := (13, [.int 60, .int 0, .int x2], [(0, .ref 0), (1, .int x1), (2, .int x2), (3, .int x3)], hM, 0, 0)) rfl ?_
            refine Ex.call0 (as := [.int x2, .int 0, .int 60]) (rest := []) (r := (some (.int 0))) (c1 := 0) (s1 := 0) rfl rfl rfl rfl (by
              refine Rn.of (me := me145) rfl ⟨Nat.le_of_ble_eq_true rfl, rfl⟩ rfl ?_
              refine Ex.steps 2 (S' := (2, [.int 0, .int x2], [(0, .int x2), (1, .int 0), (2, .int 60)], [], 0, 0)) rfl ?_
              refine Ex.icmp rfl (cF_lt h3) rfl ?_
              refine Ex.steps 2 (S' := (7, [.int 60, .int x2], [(0, .int x2), (1, .int 0), (2, .int 60)], [], 0, 0)) rfl ?_
              refine Ex.icmp rfl (cT_gt h4) rfl ?_
              refine Ex.steps 1 (S' := (15, [.int 0], [(0, .int x2), (1, .int 0), (2, .int 60)], [], 0, 0)) rfl ?_
              exact Ex.ret rfl rfl) ?_
            refine Ex.steps 0 (S' := (16, [.int 0], [(0, .ref 0), (1, .int x1), (2, .int x2), (3, .int x3)], hM, 0, 0)) rfl ?_
            refine Ex.steps 1 (S' := (29, [], [(0, .ref 0), (1, .int x1), (2, .int x2), (3, .int x3)], hM, 0, 0)) rfl ?_
            refine Ex.steps 1 (S' := (31, [.int (-2)], [(0, .ref 0), (1, .int x1), (2, .int x2), (3, .int x3)], hM, 0, 0)) rfl ?_
            exact Ex.ret rfl rfl) (by decide)
        ·
          by_cases h5 : (x3 : Int32) < x2
          ·
            exact mkI (x := (-2)) (c1 := 0) (s1 := 0) (c2 := 0) (s2 := 0) (by
              refine Rn.of (me := me19) rfl ⟨Nat.le_of_ble_eq_true rfl, rfl⟩ rfl ?_
              refine Ex.steps 3 (S' := (3, [.int 5, .int 0, .int x1], [(0, .ref 0), (1, .int x1), (2, .int x2), (3, .int x3)], hX, 0, 0)) rfl ?_
              refine Ex.call0 (as := [.int x1, .int 0, .int 5]) (rest := []) (r := (some (.int 1))) (c1 := 0) (s1 := 0) rfl rfl rfl rfl (by
                refine Rn.of (me := me12) rfl ⟨Nat.le_of_ble_eq_true rfl, rfl⟩ rfl ?_
                refine Ex.steps 2 (S' := (2, [.int 0, .int x1], [(0, .int x1), (1, .int 0), (2, .int 5)], [], 0, 0)) rfl ?_
                refine Ex.icmp rfl (cF_lt h1) rfl ?_
                refine Ex.steps 2 (S' := (7, [.int 5, .int x1], [(0, .int x1), (1, .int 0), (2, .int 5)], [], 0, 0)) rfl ?_
                refine Ex.icmp rfl (cF_gt h2) rfl ?_
                refine Ex.steps 2 (S' := (15, [.int 1], [(0, .int x1), (1, .int 0), (2, .int 5)], [], 0, 0)) rfl ?_
                exact Ex.ret rfl rfl) ?_
              refine Ex.steps 0 (S' := (6, [.int 1], [(0, .ref 0), (1, .int x1), (2, .int x2), (3, .int x3)], hX, 0, 0)) rfl ?_
              refine Ex.steps 1 (S' := (9, [], [(0, .ref 0), (1, .int x1), (2, .int x2), (3, .int x3)], hX, 0, 0)) rfl ?_
              refine Ex.steps 3 (S' := (13, [.int 60, .int 0, .int x2], [(0, .ref 0), (1, .int x1), (2, .int x2), (3, .int x3)], hX, 0, 0)) rfl ?_
              refine Ex.call0 (as := [.int x2, .int 0, .int 60]) (rest := []) (r := (some (.int 1))) (c1 := 0) (s1 := 0) rfl rfl rfl rfl (by
                refine Rn.of (me := me12) rfl ⟨Nat.le_of_ble_eq_true rfl, rfl⟩ rfl ?_
                refine Ex.steps 2 (S' := (2, [.int 0, .int x2], [(0, .int x2), (1, .int 0), (2, .int 60)], [], 0, 0)) rfl ?_
                refine Ex.icmp rfl (cF_lt h3) rfl ?_
                refine Ex.steps 2 (S' := (7, [.int 60, .int x2], [(0, .int x2), (1, .int 0), (2, .int 60)], [], 0, 0)) rfl ?_
                refine Ex.icmp rfl (cF_gt h4) rfl ?_
                refine Ex.steps 2 (S' := (15, [.int 1], [(0, .int x2), (1, .int 0), (2, .int 60)], [], 0, 0)) rfl ?_
                exact Ex.ret rfl rfl) ?_
              refine Ex.steps 0 (S' := (16, [.int 1], [(0, .ref 0), (1, .int x1), (2, .int x2), (3, .int x3)], hX, 0, 0)) rfl ?_
              refine Ex.steps 1 (S' := (19, [], [(0, .ref 0), (1, .int x1), (2, .int x2), (3, .int x3)], hX, 0, 0)) rfl ?_
              refine Ex.steps 3 (S' := (23, [.int 60, .int x2, .int x3], [(0, .ref 0), (1, .int x1), (2, .int x2), (3, .int x3)], hX, 0, 0)) rfl ?_
              refine Ex.call0 (as := [.int x3, .int x2, .int 60]) (rest := []) (r := (some (.int 0))) (c1 := 0) (s1 := 0) rfl rfl rfl rfl (by
                refine Rn.of (me := me12) rfl ⟨Nat.le_of_ble_eq_true rfl, rfl⟩ rfl ?_
                refine Ex.steps 2 (S' := (2, [.int x2, .int x3], [(0, .int x3), (1, .int x2), (2, .int 60)], [], 0, 0)) rfl ?_
                refine Ex.icmp rfl (cT_lt h5) rfl ?_
                refine Ex.steps 1 (S' := (15, [.int 0], [(0, .int x3), (1, .int x2), (2, .int 60)], [], 0, 0)) rfl ?_
                exact Ex.ret rfl rfl) ?_
              refine Ex.steps 0 (S' := (26, [.int 0], [(0, .ref 0), (1, .int x1), (2, .int x2), (3, .int x3)], hX, 0, 0)) rfl ?_
              refine Ex.steps 1 (S' := (29, [], [(0, .ref 0), (1, .int x1), (2, .int x2), (3, .int x3)], hX, 0, 0)) rfl ?_
              refine Ex.steps 1 (S' := (31, [.int (-2)], [(0, .ref 0), (1, .int x1), (2, .int x2), (3, .int x3)], hX, 0, 0)) rfl ?_
              exact Ex.ret rfl rfl) (by
              refine Rn.of (me := me149) rfl ⟨Nat.le_of_ble_eq_true rfl, rfl⟩ rfl ?_
              refine Ex.steps 3 (S' := (3, [.int 5, .int 0, .int x1], [(0, .ref 0), (1, .int x1), (2, .int x2), (3, .int x3)], hM, 0, 0)) rfl ?_
              refine Ex.call0 (as := [.int x1, .int 0, .int 5]) (rest := []) (r := (some (.int 1))) (c1 := 0) (s1 := 0) rfl rfl rfl rfl (by
                refine Rn.of (me := me145) rfl ⟨Nat.le_of_ble_eq_true rfl, rfl⟩ rfl ?_
                refine Ex.steps 2 (S' := (2, [.int 0, .int x1], [(0, .int x1), (1, .int 0), (2, .int 5)], [], 0, 0)) rfl ?_
                refine Ex.icmp rfl (cF_lt h1) rfl ?_
                refine Ex.steps 2 (S' := (7, [.int 5, .int x1], [(0, .int x1), (1, .int 0), (2, .int 5)], [], 0, 0)) rfl ?_
                refine Ex.icmp rfl (cF_gt h2) rfl ?_
                refine Ex.steps 2 (S' := (15, [.int 1], [(0, .int x1), (1, .int 0), (2, .int 5)], [], 0, 0)) rfl ?_
                exact Ex.ret rfl rfl) ?_
              refine Ex.steps 0 (S' := (6, [.int 1], [(0, .ref 0), (1, .int x1), (2, .int x2), (3, .int x3)], hM, 0, 0)) rfl ?_
              refine Ex.steps 1 (S' := (9, [], [(0, .ref 0), (1, .int x1), (2, .int x2), (3, .int x3)], hM, 0, 0)) rfl ?_
              refine Ex.steps 3 (S' := (13, [.int 60, .int 0, .int x2], [(0, .ref 0), (1, .int x1), (2, .int x2), (3, .int x3)], hM, 0, 0)) rfl ?_
              refine Ex.call0 (as := [.int x2, .int 0, .int 60]) (rest := []) (r := (some (.int 1))) (c1 := 0) (s1 := 0) rfl rfl rfl rfl (by
                refine Rn.of (me := me145) rfl ⟨Nat.le_of_ble_eq_true rfl, rfl⟩ rfl ?_
                refine Ex.steps 2 (S' := (2, [.int 0, .int x2], [(0, .int x2), (1, .int 0), (2, .int 60)], [], 0, 0)) rfl ?_
                refine Ex.icmp rfl (cF_lt h3) rfl ?_
                refine Ex.steps 2 (S' := (7, [.int 60, .int x2], [(0, .int x2), (1, .int 0), (2, .int 60)], [], 0, 0)) rfl ?_
                refine Ex.icmp rfl (cF_gt h4) rfl ?_
                refine Ex.steps 2 (S' := (15, [.int 1], [(0, .int x2), (1, .int 0), (2, .int 60)], [], 0, 0)) rfl ?_
                exact Ex.ret rfl rfl) ?_
              refine Ex.steps 0 (S' := (16, [.int 1], [(0, .ref 0), (1, .int x1), (2, .int x2), (3, .int x3)], hM, 0, 0)) rfl ?_
              refine Ex.steps 1 (S' := (19, [], [(0, .ref 0), (1, .int x1), (2, .int x2), (3, .int x3)], hM, 0, 0)) rfl ?_
              refine Ex.steps 3 (S' := (23, [.int 60, .int x2, .int x3], [(0, .ref 0), (1, .int x1), (2, .int x2), (3, .int x3)], hM, 0, 0)) rfl ?_
              refine Ex.call0 (as := [.int x3, .int x2, .int 60]) (rest := []) (r := (some (.int 0))) (c1 := 0) (s1 := 0) rfl rfl rfl rfl (by
                refine Rn.of (me := me145) rfl ⟨Nat.le_of_ble_eq_true rfl, rfl⟩ rfl ?_
                refine Ex.steps 2 (S' := (2, [.int x2, .int x3], [(0, .int x3), (1, .int x2), (2, .int 60)], [], 0, 0)) rfl ?_
                refine Ex.icmp rfl (cT_lt h5) rfl ?_
                refine Ex.steps 1 (S' := (15, [.int 0], [(0, .int x3), (1, .int x2), (2, .int 60)], [], 0, 0)) rfl ?_
                exact Ex.ret rfl rfl) ?_
              refine Ex.steps 0 (S' := (26, [.int 0], [(0, .ref 0), (1, .int x1), (2, .int x2), (3, .int x3)], hM, 0, 0)) rfl ?_
              refine Ex.steps 1 (S' := (29, [], [(0, .ref 0), (1, .int x1), (2, .int x2), (3, .int x3)], hM, 0, 0)) rfl ?_
              refine Ex.steps 1 (S' := (31, [.int (-2)], [(0, .ref 0), (1, .int x1), (2, .int x2), (3, .int x3)], hM, 0, 0)) rfl ?_
              exact Ex.ret rfl rfl) (by decide)
          ·
            by_cases h6 : (60 : Int32) < x3
            ·
              exact mkI (x := (-2)) (c1 := 0) (s1 := 0) (c2 := 0) (s2 := 0) (by
                refine Rn.of (me := me19) rfl ⟨Nat.le_of_ble_eq_true rfl, rfl⟩ rfl ?_
                refine Ex.steps 3 (S' := (3, [.int 5, .int 0, .int x1], [(0, .ref 0), (1, .int x1), (2, .int x2), (3, .int x3)], hX, 0, 0)) rfl ?_
                refine Ex.call0 (as := [.int x1, .int 0, .int 5]) (rest := []) (r := (some (.int 1))) (c1 := 0) (s1 := 0) rfl rfl rfl rfl (by
                  refine Rn.of (me := me12) rfl ⟨Nat.le_of_ble_eq_true rfl, rfl⟩ rfl ?_
                  refine Ex.steps 2 (S' := (2, [.int 0, .int x1], [(0, .int x1), (1, .int 0), (2, .int 5)], [], 0, 0)) rfl ?_
                  refine Ex.icmp rfl (cF_lt h1) rfl ?_
                  refine Ex.steps 2 (S' := (7, [.int 5, .int x1], [(0, .int x1), (1, .int 0), (2, .int 5)], [], 0, 0)) rfl ?_
                  refine Ex.icmp rfl (cF_gt h2) rfl ?_
                  refine Ex.steps 2 (S' := (15, [.int 1], [(0, .int x1), (1, .int 0), (2, .int 5)], [], 0, 0)) rfl ?_
                  exact Ex.ret rfl rfl) ?_
                refine Ex.steps 0 (S' := (6, [.int 1], [(0, .ref 0), (1, .int x1), (2, .int x2), (3, .int x3)], hX, 0, 0)) rfl ?_
                refine Ex.steps 1 (S' := (9, [], [(0, .ref 0), (1, .int x1), (2, .int x2), (3, .int x3)], hX, 0, 0)) rfl ?_
                refine Ex.steps 3 (S' := (13, [.int 60, .int 0, .int x2], [(0, .ref 0), (1, .int x1), (2, .int x2), (3, .int x3)], hX, 0, 0)) rfl ?_
                refine Ex.call0 (as := [.int x2, .int 0, .int 60]) (rest := []) (r := (some (.int 1))) (c1 := 0) (s1 := 0) rfl rfl rfl rfl (by
                  refine Rn.of (me := me12) rfl ⟨Nat.le_of_ble_eq_true rfl, rfl⟩ rfl ?_
                  refine Ex.steps 2 (S' := (2, [.int 0, .int x2], [(0, .int x2), (1, .int 0), (2, .int 60)], [], 0, 0)) rfl ?_
                  refine Ex.icmp rfl (cF_lt h3) rfl ?_
                  refine Ex.steps 2 (S' := (7, [.int 60, .int x2], [(0, .int x2), (1, .int 0), (2, .int 60)], [], 0, 0)) rfl ?_
                  refine Ex.icmp rfl (cF_gt h4) rfl ?_
                  refine Ex.steps 2 (S' := (15, [.int 1], [(0, .int x2), (1, .int 0), (2, .int 60)], [], 0, 0)) rfl ?_
                  exact Ex.ret rfl rfl) ?_
                refine Ex.steps 0 (S' := (16, [.int 1], [(0, .ref 0), (1, .int x1), (2, .int x2), (3, .int x3)], hX, 0, 0)) rfl ?_
                refine Ex.steps 1 (S' := (19, [], [(0, .ref 0), (1, .int x1), (2, .int x2), (3, .int x3)], hX, 0, 0)) rfl ?_
                refine Ex.steps 3 (S' := (23, [.int 60, .int x2, .int x3], [(0, .ref 0), (1, .int x1), (2, .int x2), (3, .int x3)], hX, 0, 0)) rfl ?_
                refine Ex.call0 (as := [.int x3, .int x2, .int 60]) (rest := []) (r := (some (.int 0))) (c1 := 0) (s1 := 0) rfl rfl rfl rfl (by
                  refine Rn.of (me := me12) rfl ⟨Nat.le_of_ble_eq_true rfl, rfl⟩ rfl ?_
                  refine Ex.steps 2 (S' := (2, [.int x2, .int x3], [(0, .int x3), (1, .int x2), (2, .int 60)], [], 0, 0)) rfl ?_
                  refine Ex.icmp rfl (cF_lt h5) rfl ?_
                  refine Ex.steps 2 (S' := (7, [.int 60, .int x3], [(0, .int x3), (1, .int x2), (2, .int 60)], [], 0, 0)) rfl ?_
                  refine Ex.icmp rfl (cT_gt h6) rfl ?_
                  refine Ex.steps 1 (S' := (15, [.int 0], [(0, .int x3), (1, .int x2), (2, .int 60)], [], 0, 0)) rfl ?_
                  exact Ex.ret rfl rfl) ?_
                refine Ex.steps 0 (S' := (26, [.int 0], [(0, .ref 0), (1, .int x1), (2, .int x2), (3, .int x3)], hX, 0, 0)) rfl ?_
                refine Ex.steps 1 (S' := (29, [], [(0, .ref 0), (1, .int x1), (2, .int x2), (3, .int x3)], hX, 0, 0)) rfl ?_
                refine Ex.steps 1 (S' := (31, [.int (-2)], [(0, .ref 0), (1, .int x1), (2, .int x2), (3, .int x3)], hX, 0, 0)) rfl ?_
                exact Ex.ret rfl rfl) (by
                refine Rn.of (me := me149) rfl ⟨Nat.le_of_ble_eq_true rfl, rfl⟩ rfl ?_
                refine Ex.steps 3 (S' := (3, [.int 5, .int 0, .int x1], [(0, .ref 0), (1, .int x1), (2, .int x2), (3, .int x3)], hM, 0, 0)) rfl ?_
                refine Ex.call0 (as := [.int x1, .int 0, .int 5]) (rest := []) (r := (some (.int 1))) (c1 := 0) (s1 := 0) rfl rfl rfl rfl (by
                  refine Rn.of (me := me145) rfl ⟨Nat.le_of_ble_eq_true rfl, rfl⟩ rfl ?_
                  refine Ex.steps 2 (S' := (2, [.int 0, .int x1], [(0, .int x1), (1, .int 0), (2, .int 5)], [], 0, 0)) rfl ?_
                  refine Ex.icmp rfl (cF_lt h1) rfl ?_
                  refine Ex.steps 2 (S' := (7, [.int 5, .int x1], [(0, .int x1), (1, .int 0), (2, .int 5)], [], 0, 0)) rfl ?_
                  refine Ex.icmp rfl (cF_gt h2) rfl ?_
                  refine Ex.steps 2 (S' := (15, [.int 1], [(0, .int x1), (1, .int 0), (2, .int 5)], [], 0, 0)) rfl ?_
                  exact Ex.ret rfl rfl) ?_
                refine Ex.steps 0 (S' := (6, [.int 1], [(0, .ref 0), (1, .int x1), (2, .int x2), (3, .int x3)], hM, 0, 0)) rfl ?_
                refine Ex.steps 1 (S' := (9, [], [(0, .ref 0), (1, .int x1), (2, .int x2), (3, .int x3)], hM, 0, 0)) rfl ?_
                refine Ex.steps 3 (S' := (13, [.int 60, .int 0, .int x2], [(0, .ref 0), (1, .int x1), (2, .int x2), (3, .int x3)], hM, 0, 0)) rfl ?_
                refine Ex.call0 (as := [.int x2, .int 0, .int 60]) (rest := []) (r := (some (.int 1))) (c1 := 0) (s1 := 0) rfl rfl rfl rfl (by
                  refine Rn.of (me := me145) rfl ⟨Nat.le_of_ble_eq_true rfl, rfl⟩ rfl ?_
                  refine Ex.steps 2 (S' := (2, [.int 0, .int x2], [(0, .int x2), (1, .int 0), (2, .int 60)], [], 0, 0)) rfl ?_
                  refine Ex.icmp rfl (cF_lt h3) rfl ?_
                  refine Ex.steps 2 (S' := (7, [.int 60, .int x2], [(0, .int x2), (1, .int 0), (2, .int 60)], [], 0, 0)) rfl ?_
                  refine Ex.icmp rfl (cF_gt h4) rfl ?_
                  refine Ex.steps 2 (S' := (15, [.int 1], [(0, .int x2), (1, .int 0), (2, .int 60)], [], 0, 0)) rfl ?_
                  exact Ex.ret rfl rfl) ?_
                refine Ex.steps 0 (S' := (16, [.int 1], [(0, .ref 0), (1, .int x1), (2, .int x2), (3, .int x3)], hM, 0, 0)) rfl ?_
                refine Ex.steps 1 (S' := (19, [], [(0, .ref 0), (1, .int x1), (2, .int x2), (3, .int x3)], hM, 0, 0)) rfl ?_
                refine Ex.steps 3 (S' := (23, [.int 60, .int x2, .int x3], [(0, .ref 0), (1, .int x1), (2, .int x2), (3, .int x3)], hM, 0, 0)) rfl ?_
                refine Ex.call0 (as := [.int x3, .int x2, .int 60]) (rest := []) (r := (some (.int 0))) (c1 := 0) (s1 := 0) rfl rfl rfl rfl (by
                  refine Rn.of (me := me145) rfl ⟨Nat.le_of_ble_eq_true rfl, rfl⟩ rfl ?_
                  refine Ex.steps 2 (S' := (2, [.int x2, .int x3], [(0, .int x3), (1, .int x2), (2, .int 60)], [], 0, 0)) rfl ?_
                  refine Ex.icmp rfl (cF_lt h5) rfl ?_
                  refine Ex.steps 2 (S' := (7, [.int 60, .int x3], [(0, .int x3), (1, .int x2), (2, .int 60)], [], 0, 0)) rfl ?_
                  refine Ex.icmp rfl (cT_gt h6) rfl ?_
                  refine Ex.steps 1 (S' := (15, [.int 0], [(0, .int x3), (1, .int x2), (2, .int 60)], [], 0, 0)) rfl ?_
                  exact Ex.ret rfl rfl) ?_
                refine Ex.steps 0 (S' := (26, [.int 0], [(0, .ref 0), (1, .int x1), (2, .int x2), (3, .int x3)], hM, 0, 0)) rfl ?_
                refine Ex.steps 1 (S' := (29, [], [(0, .ref 0), (1, .int x1), (2, .int x2), (3, .int x3)], hM, 0, 0)) rfl ?_
                refine Ex.steps 1 (S' := (31, [.int (-2)], [(0, .ref 0), (1, .int x1), (2, .int x2), (3, .int x3)], hM, 0, 0)) rfl ?_
                exact Ex.ret rfl rfl) (by decide)
            ·
              obtain ⟨k7, hkk7, rfl⟩ := en_b (x := x1) (n := 5) (by decide) h1 h2
              match k7, hkk7 with
              | 0, _ =>
                show BothI 19 149 [.int 0, .int x2, .int x3]
                exact mkI (x := 1) (c1 := 0) (s1 := 0) (c2 := 0) (s2 := 0) (by
                  refine Rn.of (me := me19) rfl ⟨Nat.le_of_ble_eq_true rfl, rfl⟩ rfl ?_
                  refine Ex.steps 3 (S' := (3, [.int 5, .int 0, .int 0], [(0, .ref 0), (1, .int 0), (2, .int x2), (3, .int x3)], hX, 0, 0)) rfl ?_
                  refine Ex.call0 (as := [.int 0, .int 0, .int 5]) (rest := []) (r := (some (.int 1))) (c1 := 0) (s1 := 0) rfl rfl rfl rfl (by
                    refine Rn.of (me := me12) rfl ⟨Nat.le_of_ble_eq_true rfl, rfl⟩ rfl ?_
                    refine Ex.steps 2 (S' := (2, [.int 0, .int 0], [(0, .int 0), (1, .int 0), (2, .int 5)], [], 0, 0)) rfl ?_
                    refine Ex.steps 1 (S' := (5, [], [(0, .int 0), (1, .int 0), (2, .int 5)], [], 0, 0)) rfl ?_
                    refine Ex.steps 2 (S' := (7, [.int 5, .int 0], [(0, .int 0), (1, .int 0), (2, .int 5)], [], 0, 0)) rfl ?_
                    refine Ex.steps 1 (S' := (10, [], [(0, .int 0), (1, .int 0), (2, .int 5)], [], 0, 0)) rfl ?_
                    refine Ex.steps 2 (S' := (15, [.int 1], [(0, .int 0), (1, .int 0), (2, .int 5)], [], 0, 0)) rfl ?_
                    exact Ex.ret rfl rfl) ?_
                  refine Ex.steps 0 (S' := (6, [.int 1], [(0, .ref 0), (1, .int 0), (2, .int x2), (3, .int x3)], hX, 0, 0)) rfl ?_
                  refine Ex.steps 1 (S' := (9, [], [(0, .ref 0), (1, .int 0), (2, .int x2), (3, .int x3)], hX, 0, 0)) rfl ?_
                  refine Ex.steps 3 (S' := (13, [.int 60, .int 0, .int x2], [(0, .ref 0), (1, .int 0), (2, .int x2), (3, .int x3)], hX, 0, 0)) rfl ?_
                  refine Ex.call0 (as := [.int x2, .int 0, .int 60]) (rest := []) (r := (some (.int 1))) (c1 := 0) (s1 := 0) rfl rfl rfl rfl (by
                    refine Rn.of (me := me12) rfl ⟨Nat.le_of_ble_eq_true rfl, rfl⟩ rfl ?_
                    refine Ex.steps 2 (S' := (2, [.int 0, .int x2], [(0, .int x2), (1, .int 0), (2, .int 60)], [], 0, 0)) rfl ?_
                    refine Ex.icmp rfl (cF_lt h3) rfl ?_
                    refine Ex.steps 2 (S' := (7, [.int 60, .int x2], [(0, .int x2), (1, .int 0), (2, .int 60)], [], 0, 0)) rfl ?_
                    refine Ex.icmp rfl (cF_gt h4) rfl ?_
                    refine Ex.steps 2 (S' := (15, [.int 1], [(0, .int x2), (1, .int 0), (2, .int 60)], [], 0, 0)) rfl ?_
                    exact Ex.ret rfl rfl) ?_
                  refine Ex.steps 0 (S' := (16, [.int 1], [(0, .ref 0), (1, .int 0), (2, .int x2), (3, .int x3)], hX, 0, 0)) rfl ?_
                  refine Ex.steps 1 (S' := (19, [], [(0, .ref 0), (1, .int 0), (2, .int x2), (3, .int x3)], hX, 0, 0)) rfl ?_
                  refine Ex.steps 3 (S' := (23, [.int 60, .int x2, .int x3], [(0, .ref 0), (1, .int 0), (2, .int x2), (3, .int x3)], hX, 0, 0)) rfl ?_
                  refine Ex.call0 (as := [.int x3, .int x2, .int 60]) (rest := []) (r := (some (.int 1))) (c1 := 0) (s1 := 0) rfl rfl rfl rfl (by
                    refine Rn.of (me := me12) rfl ⟨Nat.le_of_ble_eq_true rfl, rfl⟩ rfl ?_
                    refine Ex.steps 2 (S' := (2, [.int x2, .int x3], [(0, .int x3), (1, .int x2), (2, .int 60)], [], 0, 0)) rfl ?_
                    refine Ex.icmp rfl (cF_lt h5) rfl ?_
                    refine Ex.steps 2 (S' := (7, [.int 60, .int x3], [(0, .int x3), (1, .int x2), (2, .int 60)], [], 0, 0)) rfl ?_
                    refine Ex.icmp rfl (cF_gt h6) rfl ?_
                    refine Ex.steps 2 (S' := (15, [.int 1], [(0, .int x3), (1, .int x2), (2, .int 60)], [], 0, 0)) rfl ?_
                    exact Ex.ret rfl rfl) ?_
                  refine Ex.steps 0 (S' := (26, [.int 1], [(0, .ref 0), (1, .int 0), (2, .int x2), (3, .int x3)], hX, 0, 0)) rfl ?_
                  refine Ex.steps 1 (S' := (32, [], [(0, .ref 0), (1, .int 0), (2, .int x2), (3, .int x3)], hX, 0, 0)) rfl ?_
                  refine Ex.steps 15 (S' := (59, [.int 1], [(0, .ref 0), (1, .int 0), (2, .int x2), (3, .int x3)], ((hX.set 14 (.inr (0, .inl ((List.replicate 6 0).set 0 x2)))).set 15 (.inr (0, .inl ((List.replicate 6 0).set 0 x3)))), 0, 0)) rfl ?_
                  exact Ex.ret rfl rfl) (by
                  refine Rn.of (me := me149) rfl ⟨Nat.le_of_ble_eq_true rfl, rfl⟩ rfl ?_
                  refine Ex.steps 3 (S' := (3, [.int 5, .int 0, .int 0], [(0, .ref 0), (1, .int 0), (2, .int x2), (3, .int x3)], hM, 0, 0)) rfl ?_
                  refine Ex.call0 (as := [.int 0, .int 0, .int 5]) (rest := []) (r := (some (.int 1))) (c1 := 0) (s1 := 0) rfl rfl rfl rfl (by
                    refine Rn.of (me := me145) rfl ⟨Nat.le_of_ble_eq_true rfl, rfl⟩ rfl ?_
                    refine Ex.steps 2 (S' := (2, [.int 0, .int 0], [(0, .int 0), (1, .int 0), (2, .int 5)], [], 0, 0)) rfl ?_
                    refine Ex.steps 1 (S' := (5, [], [(0, .int 0), (1, .int 0), (2, .int 5)], [], 0, 0)) rfl ?_
                    refine Ex.steps 2 (S' := (7, [.int 5, .int 0], [(0, .int 0), (1, .int 0), (2, .int 5)], [], 0, 0)) rfl ?_
                    refine Ex.steps 1 (S' := (10, [], [(0, .int 0), (1, .int 0), (2, .int 5)], [], 0, 0)) rfl ?_
                    refine Ex.steps 2 (S' := (15, [.int 1], [(0, .int 0), (1, .int 0), (2, .int 5)], [], 0, 0)) rfl ?_
                    exact Ex.ret rfl rfl) ?_
                  refine Ex.steps 0 (S' := (6, [.int 1], [(0, .ref 0), (1, .int 0), (2, .int x2), (3, .int x3)], hM, 0, 0)) rfl ?_
                  refine Ex.steps 1 (S' := (9, [], [(0, .ref 0), (1, .int 0), (2, .int x2), (3, .int x3)], hM, 0, 0)) rfl ?_
                  refine Ex.steps 3 (S' := (13, [.int 60, .int 0, .int x2], [(0, .ref 0), (1, .int 0), (2, .int x2), (3, .int x3)], hM, 0, 0)) rfl ?_
                  refine Ex.call0 (as := [.int x2, .int 0, .int 60]) (rest := []) (r := (some (.int 1))) (c1 := 0) (s1 := 0) rfl rfl rfl rfl (by
                    refine Rn.of (me := me145) rfl ⟨Nat.le_of_ble_eq_true rfl, rfl⟩ rfl ?_
                    refine Ex.steps 2 (S' := (2, [.int 0, .int x2], [(0, .int x2), (1, .int 0), (2, .int 60)], [], 0, 0)) rfl ?_
                    refine Ex.icmp rfl (cF_lt h3) rfl ?_
                    refine Ex.steps 2 (S' := (7, [.int 60, .int x2], [(0, .int x2), (1, .int 0), (2, .int 60)], [], 0, 0)) rfl ?_
                    refine Ex.icmp rfl (cF_gt h4) rfl ?_
                    refine Ex.steps 2 (S' := (15, [.int 1], [(0, .int x2), (1, .int 0), (2, .int 60)], [], 0, 0)) rfl ?_
                    exact Ex.ret rfl rfl) ?_
                  refine Ex.steps 0 (S' := (16, [.int 1], [(0, .ref 0), (1, .int 0), (2, .int x2), (3, .int x3)], hM, 0, 0)) rfl ?_
                  refine Ex.steps 1 (S' := (19, [], [(0, .ref 0), (1, .int 0), (2, .int x2), (3, .int x3)], hM, 0, 0)) rfl ?_
                  refine Ex.steps 3 (S' := (23, [.int 60, .int x2, .int x3], [(0, .ref 0), (1, .int 0), (2, .int x2), (3, .int x3)], hM, 0, 0)) rfl ?_
                  refine Ex.call0 (as := [.int x3, .int x2, .int 60]) (rest := []) (r := (some (.int 1))) (c1 := 0) (s1 := 0) rfl rfl rfl rfl (by
                    refine Rn.of (me := me145) rfl ⟨Nat.le_of_ble_eq_true rfl, rfl⟩ rfl ?_
                    refine Ex.steps 2 (S' := (2, [.int x2, .int x3], [(0, .int x3), (1, .int x2), (2, .int 60)], [], 0, 0)) rfl ?_
                    refine Ex.icmp rfl (cF_lt h5) rfl ?_
                    refine Ex.steps 2 (S' := (7, [.int 60, .int x3], [(0, .int x3), (1, .int x2), (2, .int 60)], [], 0, 0)) rfl ?_
                    refine Ex.icmp rfl (cF_gt h6) rfl ?_
                    refine Ex.steps 2 (S' := (15, [.int 1], [(0, .int x3), (1, .int x2), (2, .int 60)], [], 0, 0)) rfl ?_
                    exact Ex.ret rfl rfl) ?_
                  refine Ex.steps 0 (S' := (26, [.int 1], [(0, .ref 0), (1, .int 0), (2, .int x2), (3, .int x3)], hM, 0, 0)) rfl ?_
                  refine Ex.steps 1 (S' := (32, [], [(0, .ref 0), (1, .int 0), (2, .int x2), (3, .int x3)], hM, 0, 0)) rfl ?_
                  refine Ex.steps 21 (S' := (61, [.int 1], [(0, .ref 0), (1, .int 0), (2, .int x2), (3, .int x3)], ((hM.set 1 (.inr (0, .inl ([3, 0, 0, 0, 0, 0, 0, 0, 3, 5, 0, 0, 0, 0, 0, 0, 0, 100, 0, 0, (-1), 0, 0, 0, 0, 0, 0, 0, 0, 0, 0, 0, 0, 0, 0, 0, 0, 0, 0, 0, 0, 0, 1, 0, 0, 0, 0, 0, 0, 0, 0, 0, 0, 0, 0, 0, 0, 0, 0, 0, 0, 0, 0, 0, 0, 0, 0, 0, 0, 0, 0, 0, 0, 0, 0, 0, 0, 0, 0, 0, 0, 0, 1, 0, 0, 0, 0, 0, 0, 0, 0, 0, 0, 0, 0, 0, 0, 0, 0, 0, 0, 0, 0, 0, 0, 0, 0, 0, 0, 0, 0, 0, 0, 0, 0, 0, 0, 0, 0, 0, 0, 0, 1, 0, 0, 0, 0, 0, 0, 0, 0, 0, 0, 0, 0, 0, 0, 0, 0, 0, 0, 0, 0, 0, 0, 0, 0, 0, 0, 0, 0, 0, 0, 0, 0, 0, 0, 0, 0, 0, 0, 0, 1, 0, 0, 0, 0, 0, 0, 0, 0, 0, 0, 0, 0, 0, 0, 0, 0, 0, 0, 0, 0, 0, 0, 0, 0, 0, 0, 0, 0, 0, 0, 0, 0, 0, 0, 0, 0, 0, 0, 0, 0, 0, 0, 0, 0, 0, 0, 0, 0, 0, 0, 0, 0, 0, 0, 0, 0, 0, 0, 0, 0, 0, 0, 0, 0, 0, 0, 0, 0, 0, 0, 0, 0, 0, 0, 0, 0, 0, 0, 0, 0, 0, 0, 0, 0, 0, 0, 0, 0, 0, 0, 0, 0, 0, 0, 0, 0, 0, 0, 0, 0, 0, 0, 0, 0, 0, 0, 0, 0, 0, 0, 0, 0, 0, 0, 0, 0, 0, 0, 0, 0, 0, 0, 0, 0, 0, 0, 0, 0, 0, 0, 0, 0, 0, 0, 0, 0, 0, 0, 0, 0, 0, 0, 0, 0, 0, 0, 0, 0, 0, 0, 0, 0, 0, 0, 0, 0, 0, 0, 0, 0, 0, 0, 0, 0, 0, 0, 0, 0, 0, 0, 0, 0, 0, 0, 0, 0, 0, 0, 0, 0, 0, 0, 0, 0, 0, 0, 0, 0, 0, 0, 0, 0, 0, 0, 0, 0, 0, 0, 0, 0, 0, 0, 0, 0, 0, 0, 0, 0, 0, 0, 0, 0, 0, 0, 0, 0, 0, 0, 0, 0, 0, 0, 0, 0, 0, 0, 0, 0, 0, 0, 0, 0, 0, 0, 0, 0, 0, 0, 0, 0, 0, 0, 0, 0, 0, 0, 0, 0, 0, 0, 0, 0, 0, 0, 0, 0, 0, 0, 0, 0, 0, 0, 0, 0, 0, 0, 0, 0, 0, 0, 0, 0, 0, 0, 0, 0, 0, 0, 0, 0, 0, 0, 0, 0, 0, 0, 0, 0, 0, 0, 0, 0, 0, 0, 0, 0, 0, 0, 0, 0, 0, 0, 0, 0, 0, 0, 0, 0, 0, 0, 0, 0, 0, 0, 0, 0, 0, 0, 0, 0, 0, 0, 0, 0, 0, 0, 0, 0, 0, 0, 0, 0, 0, 0, 0, 0, 0, 0, 0, 0, 0, 0, 0, 0, 0, 0, 0, 0, 0, 0, 0, 0, 0, 0, 0, 0, 0, 0, 0, 0, 0, 0, 0, 0, 0, 0, 0, 0, 0, 0, 0, 0, 0, 0, 0, 0, 0, 0, 0, 0, 0, 0, 0, 0, 0, 0, 0, 0, 0, 0, 0, 0, 0, 0, 0, 0, 0, 0, 0, 0, 0, 0, 0, 0, 0, 0, 0, 0, 0, 0, 0, 0, 0, 0, 0, 0, 0, 0, 0, 0, 0, 0, 0, 0, 0, 0, 0, 0, 0, 0, 0, 0, 0, 0, 0, 0, 0, 0, 0, 0, 0, 0, 0, 0, 0, 0, 0, 0, 0, 0, 0, 0, 0, 0, 0, 0, 0, 0, 0, 0, 0, 0, 0, 0, 0, 0, 0, 0, 0, 0, 0, 0, 0, 0, 0, 0, 0, 0, 0, 0, 0, 0, 0, 0, 0, 0, 0, 0, 0, 0, 0, 0, 0, 0, 0, 0, 0, 0, 0, 0, 0, 0, 0, 0, 0, 0, 0, 0, 0, 0, 0, 0, 0, 0, 0, 0, 0, 0, 0, 0, 0, 0, 0, 0, 0, 0, 0, 0, 0, 0, 0, 0, 0, 0, 0, 0, 0, 0, 0, 0, 0, 0, 0, 0, 0, 0, 0, 0, 0, 0, 0, 0, 0, 0, 0, 0, 0, 0, 0, 0, 0, 0, 0, 0, 0, 0, 0, 0, 0, 0, 0, 0, 0, 0, 0, 0, 0, 0, 0, 0, 0, 0, 0, 0, 0, 0, 0, 0, 0, 0, 0, 0, 0, 0, 0, 0, 0, 0, 0, 0, 0, 0, 0, 0, 0, 0, 0, 0, 0, 0, 0, 0, 0, 0, 0, 0, 0, 0, 0, 0, 0, (-100), 100, (-100), 100, (-100), 100, (-100), 100, 0, 0, 0, 0, 0, 0, 0, 0, 0, 0, 0, 0, 0, 0, 0, 0, 0, 0, 0, 0, 0, 0, 0, 0, 0, 0, 0, 0, 0, 0, 0, 0, 0, 0, 0, 0, 0, 0, 0, 0, 0, 0, 0, 0, 0, 0, 0, 0, 0, 0, 0, 0, 0, 0, 0, 0, 0, 0, 0, 0, 0, 0, 0, 0, 0, 0, 0, 0, 0, 0, 0, 0, 0, 0, 0, 0, 0, 0, 0, 0, 0, 0, 0, 0, 0, 0, 0, 0, 0, 0, 0, 0, 0, 0, 0, 0, 0, 0, 0, 0, 0, 0, 0, 0, 0, 0, 0, 0, 0, 0, 0, 0, 0, 0, 0, 0, 0, 0].set 680 x2)))).set 1 (.inr (0, .inl (([3, 0, 0, 0, 0, 0, 0, 0, 3, 5, 0, 0, 0, 0, 0, 0, 0, 100, 0, 0, (-1), 0, 0, 0, 0, 0, 0, 0, 0, 0, 0, 0, 0, 0, 0, 0, 0, 0, 0, 0, 0, 0, 1, 0, 0, 0, 0, 0, 0, 0, 0, 0, 0, 0, 0, 0, 0, 0, 0, 0, 0, 0, 0, 0, 0, 0, 0, 0, 0, 0, 0, 0, 0, 0, 0, 0, 0, 0, 0, 0, 0, 0, 1, 0, 0, 0, 0, 0, 0, 0, 0, 0, 0, 0, 0, 0, 0, 0, 0, 0, 0, 0, 0, 0, 0, 0, 0, 0, 0, 0, 0, 0, 0, 0, 0, 0, 0, 0, 0, 0, 0, 0, 1, 0, 0, 0, 0, 0, 0, 0, 0, 0, 0, 0, 0, 0, 0, 0, 0, 0, 0, 0, 0, 0, 0, 0, 0, 0, 0, 0, 0, 0, 0, 0, 0, 0, 0, 0, 0, 0, 0, 0, 1, 0, 0, 0, 0, 0, 0, 0, 0, 0, 0, 0, 0, 0, 0, 0, 0, 0, 0, 0, 0, 0, 0, 0, 0, 0, 0, 0, 0, 0, 0, 0, 0, 0, 0, 0, 0, 0, 0, 0, 0, 0, 0, 0, 0, 0, 0, 0, 0, 0, 0, 0, 0, 0, 0, 0, 0, 0, 0, 0, 0, 0, 0, 0, 0, 0, 0, 0, 0, 0, 0, 0, 0, 0, 0, 0, 0, 0, 0, 0, 0, 0, 0, 0, 0, 0, 0, 0, 0, 0, 0, 0, 0, 0, 0, 0, 0, 0, 0, 0, 0, 0, 0, 0, 0, 0, 0, 0, 0, 0, 0, 0, 0, 0, 0, 0, 0, 0, 0, 0, 0, 0, 0, 0, 0, 0, 0, 0, 0, 0, 0, 0, 0, 0, 0, 0, 0, 0, 0, 0, 0, 0, 0, 0, 0, 0, 0, 0, 0, 0, 0, 0, 0, 0, 0, 0, 0, 0, 0, 0, 0, 0, 0, 0, 0, 0, 0, 0, 0, 0, 0, 0, 0, 0, 0, 0, 0, 0, 0, 0, 0, 0, 0, 0, 0, 0, 0, 0, 0, 0, 0, 0, 0, 0, 0, 0, 0, 0, 0, 0, 0, 0, 0, 0, 0, 0, 0, 0, 0, 0, 0, 0, 0, 0, 0, 0, 0, 0, 0, 0, 0, 0, 0, 0, 0, 0, 0, 0, 0, 0, 0, 0, 0, 0, 0, 0, 0, 0, 0, 0, 0, 0, 0, 0, 0, 0, 0, 0, 0, 0, 0, 0, 0, 0, 0, 0, 0, 0, 0, 0, 0, 0, 0, 0, 0, 0, 0, 0, 0, 0, 0, 0, 0, 0, 0, 0, 0, 0, 0, 0, 0, 0, 0, 0, 0, 0, 0, 0, 0, 0, 0, 0, 0, 0, 0, 0, 0, 0, 0, 0, 0, 0, 0, 0, 0, 0, 0, 0, 0, 0, 0, 0, 0, 0, 0, 0, 0, 0, 0, 0, 0, 0, 0, 0, 0, 0, 0, 0, 0, 0, 0, 0, 0, 0, 0, 0, 0, 0, 0, 0, 0, 0, 0, 0, 0, 0, 0, 0, 0, 0, 0, 0, 0, 0, 0, 0, 0, 0, 0, 0, 0, 0, 0, 0, 0, 0, 0, 0, 0, 0, 0, 0, 0, 0, 0, 0, 0, 0, 0, 0, 0, 0, 0, 0, 0, 0, 0, 0, 0, 0, 0, 0, 0, 0, 0, 0, 0, 0, 0, 0, 0, 0, 0, 0, 0, 0, 0, 0, 0, 0, 0, 0, 0, 0, 0, 0, 0, 0, 0, 0, 0, 0, 0, 0, 0, 0, 0, 0, 0, 0, 0, 0, 0, 0, 0, 0, 0, 0, 0, 0, 0, 0, 0, 0, 0, 0, 0, 0, 0, 0, 0, 0, 0, 0, 0, 0, 0, 0, 0, 0, 0, 0, 0, 0, 0, 0, 0, 0, 0, 0, 0, 0, 0, 0, 0, 0, 0, 0, 0, 0, 0, 0, 0, 0, 0, 0, 0, 0, 0, 0, 0, 0, 0, 0, 0, 0, 0, 0, 0, 0, 0, 0, 0, 0, 0, 0, 0, 0, 0, 0, 0, 0, 0, 0, 0, 0, 0, 0, 0, 0, 0, 0, 0, 0, 0, 0, 0, 0, 0, 0, 0, 0, 0, 0, 0, 0, 0, 0, 0, 0, 0, 0, 0, 0, 0, 0, 0, 0, 0, 0, 0, 0, 0, 0, 0, 0, 0, 0, 0, 0, 0, 0, 0, 0, 0, 0, 0, 0, 0, 0, 0, 0, 0, 0, 0, 0, 0, 0, 0, 0, 0, 0, 0, 0, 0, 0, 0, 0, 0, 0, 0, 0, 0, 0, 0, 0, 0, 0, 0, 0, 0, 0, 0, 0, 0, 0, 0, 0, 0, 0, 0, 0, 0, 0, 0, 0, 0, 0, 0, 0, 0, 0, (-100), 100, (-100), 100, (-100), 100, (-100), 100, 0, 0, 0, 0, 0, 0, 0, 0, 0, 0, 0, 0, 0, 0, 0, 0, 0, 0, 0, 0, 0, 0, 0, 0, 0, 0, 0, 0, 0, 0, 0, 0, 0, 0, 0, 0, 0, 0, 0, 0, 0, 0, 0, 0, 0, 0, 0, 0, 0, 0, 0, 0, 0, 0, 0, 0, 0, 0, 0, 0, 0, 0, 0, 0, 0, 0, 0, 0, 0, 0, 0, 0, 0, 0, 0, 0, 0, 0, 0, 0, 0, 0, 0, 0, 0, 0, 0, 0, 0, 0, 0, 0, 0, 0, 0, 0, 0, 0, 0, 0, 0, 0, 0, 0, 0, 0, 0, 0, 0, 0, 0, 0, 0, 0, 0, 0, 0, 0].set 680 x2).set 681 x3)))), 0, 0)) rfl ?_
                  exact Ex.ret rfl rfl) (by decide)
              | 1, _ =>
                show BothI 19 149 [.int 1, .int x2, .int x3]
                exact mkI (x := 1) (c1 := 0) (s1 := 0) (c2 := 0) (s2 := 0) (by
                  refine Rn.of (me := me19) rfl ⟨Nat.le_of_ble_eq_true rfl, rfl⟩ rfl ?_
                  refine Ex.steps 3 (S' := (3, [.int 5, .int 0, .int 1], [(0, .ref 0), (1, .int 1), (2, .int x2), (3, .int x3)], hX, 0, 0)) rfl ?_
                  refine Ex.call0 (as := [.int 1, .int 0, .int 5]) (rest := []) (r := (some (.int 1))) (c1 := 0) (s1 := 0) rfl rfl rfl rfl (by
                    refine Rn.of (me := me12) rfl ⟨Nat.le_of_ble_eq_true rfl, rfl⟩ rfl ?_
                    refine Ex.steps 2 (S' := (2, [.int 0, .int 1], [(0, .int 1), (1, .int 0), (2, .int 5)], [], 0, 0)) rfl ?_
                    refine Ex.steps 1 (S' := (5, [], [(0, .int 1), (1, .int 0), (2, .int 5)], [], 0, 0)) rfl ?_
                    refine Ex.steps 2 (S' := (7, [.int 5, .int 1], [(0, .int 1), (1, .int 0), (2, .int 5)], [], 0, 0)) rfl ?_
                    refine Ex.steps 1 (S' := (10, [], [(0, .int 1), (1, .int 0), (2, .int 5)], [], 0, 0)) rfl ?_
                    refine Ex.steps 2 (S' := (15, [.int 1], [(0, .int 1), (1, .int 0), (2, .int 5)], [], 0, 0)) rfl ?_
                    exact Ex.ret rfl rfl) ?_
                  refine Ex.steps 0 (S' := (6, [.int 1], [(0, .ref 0), (1, .int 1), (2, .int x2), (3, .int x3)], hX, 0, 0)) rfl ?_
                  refine Ex.steps 1 (S' := (9, [], [(0, .ref 0), (1, .int 1), (2, .int x2), (3, .int x3)], hX, 0, 0)) rfl ?_
                  refine Ex.steps 3 (S' := (13, [.int 60, .int 0, .int x2], [(0, .ref 0), (1, .int 1), (2, .int x2), (3, .int x3)], hX, 0, 0)) rfl ?_
                  refine Ex.call0 (as := [.int x2, .int 0, .int 60]) (rest := []) (r := (some (.int 1))) (c1 := 0) (s1 := 0) rfl rfl rfl rfl (by
                    refine Rn.of (me := me12) rfl ⟨Nat.le_of_ble_eq_true rfl, rfl⟩ rfl ?_
                    refine Ex.steps 2 (S' := (2, [.int 0, .int x2], [(0, .int x2), (1, .int 0), (2, .int 60)], [], 0, 0)) rfl ?_
                    refine Ex.icmp rfl (cF_lt h3) rfl ?_
                    refine Ex.steps 2 (S' := (7, [.int 60, .int x2], [(0, .int x2), (1, .int 0), (2, .int 60)], [], 0, 0)) rfl ?_
                    refine Ex.icmp rfl (cF_gt h4) rfl ?_
                    refine Ex.steps 2 (S' := (15, [.int 1], [(0, .int x2), (1, .int 0), (2, .int 60)], [], 0, 0)) rfl ?_
                    exact Ex.ret rfl rfl) ?_
                  refine Ex.steps 0 (S' := (16, [.int 1], [(0, .ref 0), (1, .int 1), (2, .int x2), (3, .int x3)], hX, 0, 0)) rfl ?_
                  refine Ex.steps 1 (S' := (19, [], [(0, .ref 0), (1, .int 1), (2, .int x2), (3, .int x3)], hX, 0, 0)) rfl ?_
                  refine Ex.steps 3 (S' := (23, [.int 60, .int x2, .int x3], [(0, .ref 0), (1, .int 1), (2, .int x2), (3, .int x3)], hX, 0, 0)) rfl ?_
                  refine Ex.call0 (as := [.int x3, .int x2, .int 60]) (rest := []) (r := (some (.int 1))) (c1 := 0) (s1 := 0) rfl rfl rfl rfl (by
                    refine Rn.of (me := me12) rfl ⟨Nat.le_of_ble_eq_true rfl, rfl⟩ rfl ?_
                    refine Ex.steps 2 (S' := (2, [.int x2, .int x3], [(0, .int x3), (1, .int x2), (2, .int 60)], [], 0, 0)) rfl ?_
                    refine Ex.icmp rfl (cF_lt h5) rfl ?_
                    refine Ex.steps 2 (S' := (7, [.int 60, .int x3], [(0, .int x3), (1, .int x2), (2, .int 60)], [], 0, 0)) rfl ?_
                    refine Ex.icmp rfl (cF_gt h6) rfl ?_
                    refine Ex.steps 2 (S' := (15, [.int 1], [(0, .int x3), (1, .int x2), (2, .int 60)], [], 0, 0)) rfl ?_
                    exact Ex.ret rfl rfl) ?_
                  refine Ex.steps 0 (S' := (26, [.int 1], [(0, .ref 0), (1, .int 1), (2, .int x2), (3, .int x3)], hX, 0, 0)) rfl ?_
                  refine Ex.steps 1 (S' := (32, [], [(0, .ref 0), (1, .int 1), (2, .int x2), (3, .int x3)], hX, 0, 0)) rfl ?_
                  refine Ex.steps 15 (S' := (59, [.int 1], [(0, .ref 0), (1, .int 1), (2, .int x2), (3, .int x3)], ((hX.set 14 (.inr (0, .inl ((List.replicate 6 0).set 1 x2)))).set 15 (.inr (0, .inl ((List.replicate 6 0).set 1 x3)))), 0, 0)) rfl ?_
                  exact Ex.ret rfl rfl) (by
                  refine Rn.of (me := me149) rfl ⟨Nat.le_of_ble_eq_true rfl, rfl⟩ rfl ?_
                  refine Ex.steps 3 (S' := (3, [.int 5, .int 0, .int 1], [(0, .ref 0), (1, .int 1), (2, .int x2), (3, .int x3)], hM, 0, 0)) rfl ?_
                  refine Ex.call0 (as := [.int 1, .int 0, .int 5]) (rest := []) (r := (some (.int 1))) (c1 := 0) (s1 := 0) rfl rfl rfl rfl (by
                    refine Rn.of (me := me145) rfl ⟨Nat.le_of_ble_eq_true rfl, rfl⟩ rfl ?_
                    refine Ex.steps 2 (S' := (2, [.int 0, .int 1], [(0, .int 1), (1, .int 0), (2, .int 5)], [], 0, 0)) rfl ?_
                    refine Ex.steps 1 (S' := (5, [], [(0, .int 1), (1, .int 0), (2, .int 5)], [], 0, 0)) rfl ?_
                    refine Ex.steps 2 (S' := (7, [.int 5, .int 1], [(0, .int 1), (1, .int 0), (2, .int 5)], [], 0, 0)) rfl ?_
                    refine Ex.steps 1 (S' := (10, [], [(0, .int 1), (1, .int 0), (2, .int 5)], [], 0, 0)) rfl ?_
                    refine Ex.steps 2 (S' := (15, [.int 1], [(0, .int 1), (1, .int 0), (2, .int 5)], [], 0, 0)) rfl ?_
                    exact Ex.ret rfl rfl) ?_
                  refine Ex.steps 0 (S' := (6, [.int 1], [(0, .ref 0), (1, .int 1), (2, .int x2), (3, .int x3)], hM, 0, 0)) rfl ?_
                  refine Ex.steps 1 (S' := (9, [], [(0, .ref 0), (1, .int 1), (2, .int x2), (3, .int x3)], hM, 0, 0)) rfl ?_
                  refine Ex.steps 3 (S' := (13, [.int 60, .int 0, .int x2], [(0, .ref 0), (1, .int 1), (2, .int x2), (3, .int x3)], hM, 0, 0)) rfl ?_
                  refine Ex.call0 (as := [.int x2, .int 0, .int 60]) (rest := []) (r := (some (.int 1))) (c1 := 0) (s1 := 0) rfl rfl rfl rfl (by
                    refine Rn.of (me := me145) rfl ⟨Nat.le_of_ble_eq_true rfl, rfl⟩ rfl ?_
                    refine Ex.steps 2 (S' := (2, [.int 0, .int x2], [(0, .int x2), (1, .int 0), (2, .int 60)], [], 0, 0)) rfl ?_
                    refine Ex.icmp rfl (cF_lt h3) rfl ?_
                    refine Ex.steps 2 (S' := (7, [.int 60, .int x2], [(0, .int x2), (1, .int 0), (2, .int 60)], [], 0, 0)) rfl ?_
                    refine Ex.icmp rfl (cF_gt h4) rfl ?_
                    refine Ex.steps 2 (S' := (15, [.int 1], [(0, .int x2), (1, .int 0), (2, .int 60)], [], 0, 0)) rfl ?_
                    exact Ex.ret rfl rfl) ?_
                  refine Ex.steps 0 (S' := (16, [.int 1], [(0, .ref 0), (1, .int 1), (2, .int x2), (3, .int x3)], hM, 0, 0)) rfl ?_
                  refine Ex.steps 1 (S' := (19, [], [(0, .ref 0), (1, .int 1), (2, .int x2), (3, .int x3)], hM, 0, 0)) rfl ?_
                  refine Ex.steps 3 (S' := (23, [.int 60, .int x2, .int x3], [(0, .ref 0), (1, .int 1), (2, .int x2), (3, .int x3)], hM, 0, 0)) rfl ?_
                  refine Ex.call0 (as := [.int x3, .int x2, .int 60]) (rest := []) (r := (some (.int 1))) (c1 := 0) (s1 := 0) rfl rfl rfl rfl (by
                    refine Rn.of (me := me145) rfl ⟨Nat.le_of_ble_eq_true rfl, rfl⟩ rfl ?_
                    refine Ex.steps 2 (S' := (2, [.int x2, .int x3], [(0, .int x3), (1, .int x2), (2, .int 60)], [], 0, 0)) rfl ?_
                    refine Ex.icmp rfl (cF_lt h5) rfl ?_
                    refine Ex.steps 2 (S' := (7, [.int 60, .int x3], [(0, .int x3), (1, .int x2), (2, .int 60)], [], 0, 0)) rfl ?_
                    refine Ex.icmp rfl (cF_gt h6) rfl ?_
                    refine Ex.steps 2 (S' := (15, [.int 1], [(0, .int x3), (1, .int x2), (2, .int 60)], [], 0, 0)) rfl ?_
                    exact Ex.ret rfl rfl) ?_
                  refine Ex.steps 0 (S' := (26, [.int 1], [(0, .ref 0), (1, .int 1), (2, .int x2), (3, .int x3)], hM, 0, 0)) rfl ?_
                  refine Ex.steps 1 (S' := (32, [], [(0, .ref 0), (1, .int 1), (2, .int x2), (3, .int x3)], hM, 0, 0)) rfl ?_
                  refine Ex.steps 21 (S' := (61, [.int 1], [(0, .ref 0), (1, .int 1), (2, .int x2), (3, .int x3)], ((hM.set 1 (.inr (0, .inl ([3, 0, 0, 0, 0, 0, 0, 0, 3, 5, 0, 0, 0, 0, 0, 0, 0, 100, 0, 0, (-1), 0, 0, 0, 0, 0, 0, 0, 0, 0, 0, 0, 0, 0, 0, 0, 0, 0, 0, 0, 0, 0, 1, 0, 0, 0, 0, 0, 0, 0, 0, 0, 0, 0, 0, 0, 0, 0, 0, 0, 0, 0, 0, 0, 0, 0, 0, 0, 0, 0, 0, 0, 0, 0, 0, 0, 0, 0, 0, 0, 0, 0, 1, 0, 0, 0, 0, 0, 0, 0, 0, 0, 0, 0, 0, 0, 0, 0, 0, 0, 0, 0, 0, 0, 0, 0, 0, 0, 0, 0, 0, 0, 0, 0, 0, 0, 0, 0, 0, 0, 0, 0, 1, 0, 0, 0, 0, 0, 0, 0, 0, 0, 0, 0, 0, 0, 0, 0, 0, 0, 0, 0, 0, 0, 0, 0, 0, 0, 0, 0, 0, 0, 0, 0, 0, 0, 0, 0, 0, 0, 0, 0, 1, 0, 0, 0, 0, 0, 0, 0, 0, 0, 0, 0, 0, 0, 0, 0, 0, 0, 0, 0, 0, 0, 0, 0, 0, 0, 0, 0, 0, 0, 0, 0, 0, 0, 0, 0, 0, 0, 0, 0, 0, 0, 0, 0, 0, 0, 0, 0, 0, 0, 0, 0, 0, 0, 0, 0, 0, 0, 0, 0, 0, 0, 0, 0, 0, 0, 0, 0, 0, 0, 0, 0, 0, 0, 0, 0, 0, 0, 0, 0, 0, 0, 0, 0, 0, 0, 0, 0, 0, 0, 0, 0, 0, 0, 0, 0, 0, 0, 0, 0, 0, 0, 0, 0, 0, 0, 0, 0, 0, 0, 0, 0, 0, 0, 0, 0, 0, 0, 0, 0, 0, 0, 0, 0, 0, 0, 0, 0, 0, 0, 0, 0, 0, 0, 0, 0, 0, 0, 0, 0, 0, 0, 0, 0, 0, 0, 0, 0, 0, 0, 0, 0, 0, 0, 0, 0, 0, 0, 0, 0, 0, 0, 0, 0, 0, 0, 0, 0, 0, 0, 0, 0, 0, 0, 0, 0, 0, 0, 0, 0, 0, 0, 0, 0, 0, 0, 0, 0, 0, 0, 0, 0, 0, 0, 0, 0, 0, 0, 0, 0, 0, 0, 0, 0, 0, 0, 0, 0, 0, 0, 0, 0, 0, 0, 0, 0, 0, 0, 0, 0, 0, 0, 0, 0, 0, 0, 0, 0, 0, 0, 0, 0, 0, 0, 0, 0, 0, 0, 0, 0, 0, 0, 0, 0, 0, 0, 0, 0, 0, 0, 0, 0, 0, 0, 0, 0, 0, 0, 0, 0, 0, 0, 0, 0, 0, 0, 0, 0, 0, 0, 0, 0, 0, 0, 0, 0, 0, 0, 0, 0, 0, 0, 0, 0, 0, 0, 0, 0, 0, 0, 0, 0, 0, 0, 0, 0, 0, 0, 0, 0, 0, 0, 0, 0, 0, 0, 0, 0, 0, 0, 0, 0, 0, 0, 0, 0, 0, 0, 0, 0, 0, 0, 0, 0, 0, 0, 0, 0, 0, 0, 0, 0, 0, 0, 0, 0, 0, 0, 0, 0, 0, 0, 0, 0, 0, 0, 0, 0, 0, 0, 0, 0, 0, 0, 0, 0, 0, 0, 0, 0, 0, 0, 0, 0, 0, 0, 0, 0, 0, 0, 0, 0, 0, 0, 0, 0, 0, 0, 0, 0, 0, 0, 0, 0, 0, 0, 0, 0, 0, 0, 0, 0, 0, 0, 0, 0, 0, 0, 0, 0, 0, 0, 0, 0, 0, 0, 0, 0, 0, 0, 0, 0, 0, 0, 0, 0, 0, 0, 0, 0, 0, 0, 0, 0, 0, 0, 0, 0, 0, 0, 0, 0, 0, 0, 0, 0, 0, 0, 0, 0, 0, 0, 0, 0, 0, 0, 0, 0, 0, 0, 0, 0, 0, 0, 0, 0, 0, 0, 0, 0, 0, 0, 0, 0, 0, 0, 0, 0, 0, 0, 0, 0, 0, 0, 0, 0, 0, 0, 0, 0, 0, 0, 0, 0, 0, 0, 0, 0, 0, 0, 0, 0, 0, 0, 0, 0, 0, 0, 0, 0, 0, 0, 0, 0, 0, 0, 0, 0, 0, 0, 0, 0, 0, 0, 0, 0, 0, 0, 0, 0, 0, 0, 0, 0, 0, 0, 0, 0, 0, 0, 0, 0, 0, 0, 0, 0, 0, 0, 0, 0, 0, 0, 0, 0, 0, 0, 0, 0, 0, 0, 0, 0, 0, 0, 0, 0, 0, 0, 0, 0, 0, 0, 0, 0, 0, 0, 0, 0, 0, 0, 0, 0, 0, 0, 0, 0, 0, 0, 0, 0, 0, 0, 0, 0, 0, 0, 0, 0, 0, 0, 0, 0, 0, 0, 0, 0, 0, 0, 0, 0, 0, 0, 0, 0, 0, 0, 0, 0, 0, 0, 0, 0, 0, 0, 0, 0, 0, 0, 0, 0, 0, 0, (-100), 100, (-100), 100, (-100), 100, (-100), 100, 0, 0, 0, 0, 0, 0, 0, 0, 0, 0, 0, 0, 0, 0, 0, 0, 0, 0, 0, 0, 0, 0, 0, 0, 0, 0, 0, 0, 0, 0, 0, 0, 0, 0, 0, 0, 0, 0, 0, 0, 0, 0, 0, 0, 0, 0, 0, 0, 0, 0, 0, 0, 0, 0, 0, 0, 0, 0, 0, 0, 0, 0, 0, 0, 0, 0, 0, 0, 0, 0, 0, 0, 0, 0, 0, 0, 0, 0, 0, 0, 0, 0, 0, 0, 0, 0, 0, 0, 0, 0, 0, 0, 0, 0, 0, 0, 0, 0, 0, 0, 0, 0, 0, 0, 0, 0, 0, 0, 0, 0, 0, 0, 0, 0, 0, 0, 0, 0].set 682 x2)))).set 1 (.inr (0, .inl (([3, 0, 0, 0, 0, 0, 0, 0, 3, 5, 0, 0, 0, 0, 0, 0, 0, 100, 0, 0, (-1), 0, 0, 0, 0, 0, 0, 0, 0, 0, 0, 0, 0, 0, 0, 0, 0, 0, 0, 0, 0, 0, 1, 0, 0, 0, 0, 0, 0, 0, 0, 0, 0, 0, 0, 0, 0, 0, 0, 0, 0, 0, 0, 0, 0, 0, 0, 0, 0, 0, 0, 0, 0, 0, 0, 0, 0, 0, 0, 0, 0, 0, 1, 0, 0, 0, 0, 0, 0, 0, 0, 0, 0, 0, 0, 0, 0, 0, 0, 0, 0, 0, 0, 0, 0, 0, 0, 0, 0, 0, 0, 0, 0, 0, 0, 0, 0, 0, 0, 0, 0, 0, 1, 0, 0, 0, 0, 0, 0, 0, 0, 0, 0, 0, 0, 0, 0, 0, 0, 0, 0, 0, 0, 0, 0, 0, 0, 0, 0, 0, 0, 0, 0, 0, 0, 0, 0, 0, 0, 0, 0, 0, 1, 0, 0, 0, 0, 0, 0, 0, 0, 0, 0, 0, 0, 0, 0, 0, 0, 0, 0, 0, 0, 0, 0, 0, 0, 0, 0, 0, 0, 0, 0, 0, 0, 0, 0, 0, 0, 0, 0, 0, 0, 0, 0, 0, 0, 0, 0, 0, 0, 0, 0, 0, 0, 0, 0, 0, 0, 0, 0, 0, 0, 0, 0, 0, 0, 0, 0, 0, 0, 0, 0, 0, 0, 0, 0, 0, 0, 0, 0, 0, 0, 0, 0, 0, 0, 0, 0, 0, 0, 0, 0, 0, 0, 0, 0, 0, 0, 0, 0, 0, 0, 0, 0, 0, 0, 0, 0, 0, 0, 0, 0, 0, 0, 0, 0, 0, 0, 0, 0, 0, 0, 0, 0, 0, 0, 0, 0, 0, 0, 0, 0, 0, 0, 0, 0, 0, 0, 0, 0, 0, 0, 0, 0, 0, 0, 0, 0, 0, 0, 0, 0, 0, 0, 0, 0, 0, 0, 0, 0, 0, 0, 0, 0, 0, 0, 0, 0, 0, 0, 0, 0, 0, 0, 0, 0, 0, 0, 0, 0, 0, 0, 0, 0, 0, 0, 0, 0, 0, 0, 0, 0, 0, 0, 0, 0, 0, 0, 0, 0, 0, 0, 0, 0, 0, 0, 0, 0, 0, 0, 0, 0, 0, 0, 0, 0, 0, 0, 0, 0, 0, 0, 0, 0, 0, 0, 0, 0, 0, 0, 0, 0, 0, 0, 0, 0, 0, 0, 0, 0, 0, 0, 0, 0, 0, 0, 0, 0, 0, 0, 0, 0, 0, 0, 0, 0, 0, 0, 0, 0, 0, 0, 0, 0, 0, 0, 0, 0, 0, 0, 0, 0, 0, 0, 0, 0, 0, 0, 0, 0, 0, 0, 0, 0, 0, 0, 0, 0, 0, 0, 0, 0, 0, 0, 0, 0, 0, 0, 0, 0, 0, 0, 0, 0, 0, 0, 0, 0, 0, 0, 0, 0, 0, 0, 0, 0, 0, 0, 0, 0, 0, 0, 0, 0, 0, 0, 0, 0, 0, 0, 0, 0, 0, 0, 0, 0, 0, 0, 0, 0, 0, 0, 0, 0, 0, 0, 0, 0, 0, 0, 0, 0, 0, 0, 0, 0, 0, 0, 0, 0, 0, 0, 0, 0, 0, 0, 0, 0, 0, 0, 0, 0, 0, 0, 0, 0, 0, 0, 0, 0, 0, 0, 0, 0, 0, 0, 0, 0, 0, 0, 0, 0, 0, 0, 0, 0, 0, 0, 0, 0, 0, 0, 0, 0, 0, 0, 0, 0, 0, 0, 0, 0, 0, 0, 0, 0, 0, 0, 0, 0, 0, 0, 0, 0, 0, 0, 0, 0, 0, 0, 0, 0, 0, 0, 0, 0, 0, 0, 0, 0, 0, 0, 0, 0, 0, 0, 0, 0, 0, 0, 0, 0, 0, 0, 0, 0, 0, 0, 0, 0, 0, 0, 0, 0, 0, 0, 0, 0, 0, 0, 0, 0, 0, 0, 0, 0, 0, 0, 0, 0, 0, 0, 0, 0, 0, 0, 0, 0, 0, 0, 0, 0, 0, 0, 0, 0, 0, 0, 0, 0, 0, 0, 0, 0, 0, 0, 0, 0, 0, 0, 0, 0, 0, 0, 0, 0, 0, 0, 0, 0, 0, 0, 0, 0, 0, 0, 0, 0, 0, 0, 0, 0, 0, 0, 0, 0, 0, 0, 0, 0, 0, 0, 0, 0, 0, 0, 0, 0, 0, 0, 0, 0, 0, 0, 0, 0, 0, 0, 0, 0, 0, 0, 0, 0, 0, 0, 0, 0, 0, 0, 0, 0, 0, 0, 0, 0, 0, 0, 0, 0, 0, 0, 0, 0, 0, 0, 0, 0, 0, 0, 0, 0, 0, 0, 0, 0, 0, 0, 0, 0, 0, 0, 0, 0, 0, 0, 0, 0, 0, 0, 0, 0, 0, 0, 0, 0, 0, 0, 0, 0, 0, 0, 0, (-100), 100, (-100), 100, (-100), 100, (-100), 100, 0, 0, 0, 0, 0, 0, 0, 0, 0, 0, 0, 0, 0, 0, 0, 0, 0, 0, 0, 0, 0, 0, 0, 0, 0, 0, 0, 0, 0, 0, 0, 0, 0, 0, 0, 0, 0, 0, 0, 0, 0, 0, 0, 0, 0, 0, 0, 0, 0, 0, 0, 0, 0, 0, 0, 0, 0, 0, 0, 0, 0, 0, 0, 0, 0, 0, 0, 0, 0, 0, 0, 0, 0, 0, 0, 0, 0, 0, 0, 0, 0, 0, 0, 0, 0, 0, 0, 0, 0, 0, 0, 0, 0, 0, 0, 0, 0, 0, 0, 0, 0, 0, 0, 0, 0, 0, 0, 0, 0, 0, 0, 0, 0, 0, 0, 0, 0, 0].set 682 x2).set 683 x3)))), 0, 0)) rfl ?_
                  exact Ex.ret rfl rfl) (by decide)
              | 2, _ =>
                show BothI 19 149 [.int 2, .int x2, .int x3]
                exact mkI (x := 1) (c1 := 0) (s1 := 0) (c2 := 0) (s2 := 0) (by
                  refine Rn.of (me := me19) rfl ⟨Nat.le_of_ble_eq_true rfl, rfl⟩ rfl ?_
                  refine Ex.steps 3 (S' := (3, [.int 5, .int 0, .int 2], [(0, .ref 0), (1, .int 2), (2, .int x2), (3, .int x3)], hX, 0, 0)) rfl ?_
                  refine Ex.call0 (as := [.int 2, .int 0, .int 5]) (rest := []) (r := (some (.int 1))) (c1 := 0) (s1 := 0) rfl rfl rfl rfl (by
                    refine Rn.of (me := me12) rfl ⟨Nat.le_of_ble_eq_true rfl, rfl⟩ rfl ?_
                    refine Ex.steps 2 (S' := (2, [.int 0, .int 2], [(0, .int 2), (1, .int 0), (2, .int 5)], [], 0, 0)) rfl ?_
                    refine Ex.steps 1 (S' := (5, [], [(0, .int 2), (1, .int 0), (2, .int 5)], [], 0, 0)) rfl ?_
                    refine Ex.steps 2 (S' := (7, [.int 5, .int 2], [(0, .int 2), (1, .int 0), (2, .int 5)], [], 0, 0)) rfl ?_
                    refine Ex.steps 1 (S' := (10, [], [(0, .int 2), (1, .int 0), (2, .int 5)], [], 0, 0)) rfl ?_
                    refine Ex.steps 2 (S' := (15, [.int 1], [(0, .int 2), (1, .int 0), (2, .int 5)], [], 0, 0)) rfl ?_
                    exact Ex.ret rfl rfl) ?_
                  refine Ex.steps 0 (S' := (6, [.int 1], [(0, .ref 0), (1, .int 2), (2, .int x2), (3, .int x3)], hX, 0, 0)) rfl ?_
                  refine Ex.steps 1 (S' := (9, [], [(0, .ref 0), (1, .int 2), (2, .int x2), (3, .int x3)], hX, 0, 0)) rfl ?_
                  refine Ex.steps 3 (S' := (13, [.int 60, .int 0, .int x2], [(0, .ref 0), (1, .int 2), (2, .int x2), (3, .int x3)], hX, 0, 0)) rfl ?_
                  refine Ex.call0 (as := [.int x2, .int 0, .int 60]) (rest := []) (r := (some (.int 1))) (c1 := 0) (s1 := 0) rfl rfl rfl rfl (by
                    refine Rn.of (me := me12) rfl ⟨Nat.le_of_ble_eq_true rfl, rfl⟩ rfl ?_
                    refine Ex.steps 2 (S' := (2, [.int 0, .int x2], [(0, .int x2), (1, .int 0), (2, .int 60)], [], 0, 0)) rfl ?_
                    refine Ex.icmp rfl (cF_lt h3) rfl ?_
                    refine Ex.steps 2 (S' := (7, [.int 60, .int x2], [(0, .int x2), (1, .int 0), (2, .int 60)], [], 0, 0)) rfl ?_
                    refine Ex.icmp rfl (cF_gt h4) rfl ?_
                    refine Ex.steps 2 (S' := (15, [.int 1], [(0, .int x2), (1, .int 0), (2, .int 60)], [], 0, 0)) rfl ?_
                    exact Ex.ret rfl rfl) ?_
                  refine Ex.steps 0 (S' := (16, [.int 1], [(0, .ref 0), (1, .int 2), (2, .int x2), (3, .int x3)], hX, 0, 0)) rfl ?_
                  refine Ex.steps 1 (S' := (19, [], [(0, .ref 0), (1, .int 2), (2, .int x2), (3, .int x3)], hX, 0, 0)) rfl ?_
                  refine Ex.steps 3 (S' := (23, [.int 60, .int x2, .int x3], [(0, .ref 0), (1, .int 2), (2, .int x2), (3, .int x3)], hX, 0, 0)) rfl ?_
                  refine Ex.call0 (as := [.int x3, .int x2, .int 60]) (rest := []) (r := (some (.int 1))) (c1 := 0) (s1 := 0) rfl rfl rfl rfl (by
                    refine Rn.of (me := me12) rfl ⟨Nat.le_of_ble_eq_true rfl, rfl⟩ rfl ?_
                    refine Ex.steps 2 (S' := (2, [.int x2, .int x3], [(0, .int x3), (1, .int x2), (2, .int 60)], [], 0, 0)) rfl ?_
                    refine Ex.icmp rfl (cF_lt h5) rfl ?_
                    refine Ex.steps 2 (S' := (7, [.int 60, .int x3], [(0, .int x3), (1, .int x2), (2, .int 60)], [], 0, 0)) rfl ?_
                    refine Ex.icmp rfl (cF_gt h6) rfl ?_
                    refine Ex.steps 2 (S' := (15, [.int 1], [(0, .int x3), (1, .int x2), (2, .int 60)], [], 0, 0)) rfl ?_
                    exact Ex.ret rfl rfl) ?_
                  refine Ex.steps 0 (S' := (26, [.int 1], [(0, .ref 0), (1, .int 2), (2, .int x2), (3, .int x3)], hX, 0, 0)) rfl ?_
                  refine Ex.steps 1 (S' := (32, [], [(0, .ref 0), (1, .int 2), (2, .int x2), (3, .int x3)], hX, 0, 0)) rfl ?_
                  refine Ex.steps 15 (S' := (59, [.int 1], [(0, .ref 0), (1, .int 2), (2, .int x2), (3, .int x3)], ((hX.set 14 (.inr (0, .inl ((List.replicate 6 0).set 2 x2)))).set 15 (.inr (0, .inl ((List.replicate 6 0).set 2 x3)))), 0, 0)) rfl ?_
                  exact Ex.ret rfl rfl) (by
                  refine Rn.of (me := me149) rfl ⟨Nat.le_of_ble_eq_true rfl, rfl⟩ rfl ?_
                  refine Ex.steps 3 (S' := (3, [.int 5, .int 0, .int 2], [(0, .ref 0), (1, .int 2), (2, .int x2), (3, .int x3)], hM, 0, 0)) rfl ?_
                  refine Ex.call0 (as := [.int 2, .int 0, .int 5]) (rest := []) (r := (some (.int 1))) (c1 := 0) (s1 := 0) rfl rfl rfl rfl (by
                    refine Rn.of (me := me145) rfl ⟨Nat.le_of_ble_eq_true rfl, rfl⟩ rfl ?_
                    refine Ex.steps 2 (S' := (2, [.int 0, .int 2], [(0, .int 2), (1, .int 0), (2, .int 5)], [], 0, 0)) rfl ?_
                    refine Ex.steps 1 (S' := (5, [], [(0, .int 2), (1, .int 0), (2, .int 5)], [], 0, 0)) rfl ?_
                    refine Ex.steps 2 (S' := (7, [.int 5, .int 2], [(0, .int 2), (1, .int 0), (2, .int 5)], [], 0, 0)) rfl ?_
                    refine Ex.steps 1 (S' := (10, [], [(0, .int 2), (1, .int 0), (2, .int 5)], [], 0, 0)) rfl ?_
                    refine Ex.steps 2 (S' := (15, [.int 1], [(0, .int 2), (1, .int 0), (2, .int 5)], [], 0, 0)) rfl ?_
                    exact Ex.ret rfl rfl) ?_
                  refine Ex.steps 0 (S' := (6, [.int 1], [(0, .ref 0), (1, .int 2), (2, .int x2), (3, .int x3)], hM, 0, 0)) rfl ?_
                  refine Ex.steps 1 (S' := (9, [], [(0, .ref 0), (1, .int 2), (2, .int x2), (3, .int x3)], hM, 0, 0)) rfl ?_
                  refine Ex.steps 3 (S' := (13, [.int 60, .int 0, .int x2], [(0, .ref 0), (1, .int 2), (2, .int x2), (3, .int x3)], hM, 0, 0)) rfl ?_
                  refine Ex.call0 (as := [.int x2, .int 0, .int 60]) (rest := []) (r := (some (.int 1))) (c1 := 0) (s1 := 0) rfl rfl rfl rfl (by
                    refine Rn.of (me := me145) rfl ⟨Nat.le_of_ble_eq_true rfl, rfl⟩ rfl ?_
                    refine Ex.steps 2 (S' := (2, [.int 0, .int x2], [(0, .int x2), (1, .int 0), (2, .int 60)], [], 0, 0)) rfl ?_
                    refine Ex.icmp rfl (cF_lt h3) rfl ?_
                    refine Ex.steps 2 (S' := (7, [.int 60, .int x2], [(0, .int x2), (1, .int 0), (2, .int 60)], [], 0, 0)) rfl ?_
                    refine Ex.icmp rfl (cF_gt h4) rfl ?_
                    refine Ex.steps 2 (S' := (15, [.int 1], [(0, .int x2), (1, .int 0), (2, .int 60)], [], 0, 0)) rfl ?_
                    exact Ex.ret rfl rfl) ?_
                  refine Ex.steps 0 (S' := (16, [.int 1], [(0, .ref 0), (1, .int 2), (2, .int x2), (3, .int x3)], hM, 0, 0)) rfl ?_
                  refine Ex.steps 1 (S' := (19, [], [(0, .ref 0), (1, .int 2), (2, .int x2), (3, .int x3)], hM, 0, 0)) rfl ?_
                  refine Ex.steps 3 (S' := (23, [.int 60, .int x2, .int x3], [(0, .ref 0), (1, .int 2), (2, .int x2), (3, .int x3)], hM, 0, 0)) rfl ?_
                  refine Ex.call0 (as := [.int x3, .int x2, .int 60]) (rest := []) (r := (some (.int 1))) (c1 := 0) (s1 := 0) rfl rfl rfl rfl (by
                    refine Rn.of (me := me145) rfl ⟨Nat.le_of_ble_eq_true rfl, rfl⟩ rfl ?_
                    refine Ex.steps 2 (S' := (2, [.int x2, .int x3], [(0, .int x3), (1, .int x2), (2, .int 60)], [], 0, 0)) rfl ?_
                    refine Ex.icmp rfl (cF_lt h5) rfl ?_
                    refine Ex.steps 2 (S' := (7, [.int 60, .int x3], [(0, .int x3), (1, .int x2), (2, .int 60)], [], 0, 0)) rfl ?_
                    refine Ex.icmp rfl (cF_gt h6) rfl ?_
                    refine Ex.steps 2 (S' := (15, [.int 1], [(0, .int x3), (1, .int x2), (2, .int 60)], [], 0, 0)) rfl ?_
                    exact Ex.ret rfl rfl) ?_
                  refine Ex.steps 0 (S' := (26, [.int 1], [(0, .ref 0), (1, .int 2), (2, .int x2), (3, .int x3)], hM, 0, 0)) rfl ?_
                  refine Ex.steps 1 (S' := (32, [], [(0, .ref 0), (1, .int 2), (2, .int x2), (3, .int x3)], hM, 0, 0)) rfl ?_
                  refine Ex.steps 21 (S' := (61, [.int 1], [(0, .ref 0), (1, .int 2), (2, .int x2), (3, .int x3)], ((hM.set 1 (.inr (0, .inl ([3, 0, 0, 0, 0, 0, 0, 0, 3, 5, 0, 0, 0, 0, 0, 0, 0, 100, 0, 0, (-1), 0, 0, 0, 0, 0, 0, 0, 0, 0, 0, 0, 0, 0, 0, 0, 0, 0, 0, 0, 0, 0, 1, 0, 0, 0, 0, 0, 0, 0, 0, 0, 0, 0, 0, 0, 0, 0, 0, 0, 0, 0, 0, 0, 0, 0, 0, 0, 0, 0, 0, 0, 0, 0, 0, 0, 0, 0, 0, 0, 0, 0, 1, 0, 0, 0, 0, 0, 0, 0, 0, 0, 0, 0, 0, 0, 0, 0, 0, 0, 0, 0, 0, 0, 0, 0, 0, 0, 0, 0, 0, 0, 0, 0, 0, 0, 0, 0, 0, 0, 0, 0, 1, 0, 0, 0, 0, 0, 0, 0, 0, 0, 0, 0, 0, 0, 0, 0, 0, 0, 0, 0, 0, 0, 0, 0, 0, 0, 0, 0, 0, 0, 0, 0, 0, 0, 0, 0, 0, 0, 0, 0, 1, 0, 0, 0, 0, 0, 0, 0, 0, 0, 0, 0, 0, 0, 0, 0, 0, 0, 0, 0, 0, 0, 0, 0, 0, 0, 0, 0, 0, 0, 0, 0, 0, 0, 0, 0, 0, 0, 0, 0, 0, 0, 0, 0, 0, 0, 0, 0, 0, 0, 0, 0, 0, 0, 0, 0, 0, 0, 0, 0, 0, 0, 0, 0, 0, 0, 0, 0, 0, 0, 0, 0, 0, 0, 0, 0, 0, 0, 0, 0, 0, 0, 0, 0, 0, 0, 0, 0, 0, 0, 0, 0, 0, 0, 0, 0, 0, 0, 0, 0, 0, 0, 0, 0, 0, 0, 0, 0, 0, 0, 0, 0, 0, 0, 0, 0, 0, 0, 0, 0, 0, 0, 0, 0, 0, 0, 0, 0, 0, 0, 0, 0, 0, 0, 0, 0, 0, 0, 0, 0, 0, 0, 0, 0, 0, 0, 0, 0, 0, 0, 0, 0, 0, 0, 0, 0, 0, 0, 0, 0, 0, 0, 0, 0, 0, 0, 0, 0, 0, 0, 0, 0, 0, 0, 0, 0, 0, 0, 0, 0, 0, 0, 0, 0, 0, 0, 0, 0, 0, 0, 0, 0, 0, 0, 0, 0, 0, 0, 0, 0, 0, 0, 0, 0, 0, 0, 0, 0, 0, 0, 0, 0, 0, 0, 0, 0, 0, 0, 0, 0, 0, 0, 0, 0, 0, 0, 0, 0, 0, 0, 0, 0, 0, 0, 0, 0, 0, 0, 0, 0, 0, 0, 0, 0, 0, 0, 0, 0, 0, 0, 0, 0, 0, 0, 0, 0, 0, 0, 0, 0, 0, 0, 0, 0, 0, 0, 0, 0, 0, 0, 0, 0, 0, 0, 0, 0, 0, 0, 0, 0, 0, 0, 0, 0, 0, 0, 0, 0, 0, 0, 0, 0, 0, 0, 0, 0, 0, 0, 0, 0, 0, 0, 0, 0, 0, 0, 0, 0, 0, 0, 0, 0, 0, 0, 0, 0, 0, 0, 0, 0, 0, 0, 0, 0, 0, 0, 0, 0, 0, 0, 0, 0, 0, 0, 0, 0, 0, 0, 0, 0, 0, 0, 0, 0, 0, 0, 0, 0, 0, 0, 0, 0, 0, 0, 0, 0, 0, 0, 0, 0, 0, 0, 0, 0, 0, 0, 0, 0, 0, 0, 0, 0, 0, 0, 0, 0, 0, 0, 0, 0, 0, 0, 0, 0, 0, 0, 0, 0, 0, 0, 0, 0, 0, 0, 0, 0, 0, 0, 0, 0, 0, 0, 0, 0, 0, 0, 0, 0, 0, 0, 0, 0, 0, 0, 0, 0, 0, 0, 0, 0, 0, 0, 0, 0, 0, 0, 0, 0, 0, 0, 0, 0, 0, 0, 0, 0, 0, 0, 0, 0, 0, 0, 0, 0, 0, 0, 0, 0, 0, 0, 0, 0, 0, 0, 0, 0, 0, 0, 0, 0, 0, 0, 0, 0, 0, 0, 0, 0, 0, 0, 0, 0, 0, 0, 0, 0, 0, 0, 0, 0, 0, 0, 0, 0, 0, 0, 0, 0, 0, 0, 0, 0, 0, 0, 0, 0, 0, 0, 0, 0, 0, 0, 0, 0, 0, 0, 0, 0, 0, 0, 0, 0, 0, 0, 0, 0, 0, 0, 0, 0, 0, 0, 0, 0, 0, 0, 0, 0, 0, 0, 0, 0, 0, 0, 0, 0, 0, 0, 0, 0, 0, 0, 0, 0, 0, 0, 0, 0, 0, 0, 0, 0, 0, 0, 0, 0, 0, 0, 0, 0, 0, 0, 0, 0, 0, 0, 0, 0, 0, 0, 0, 0, 0, 0, 0, 0, 0, 0, 0, 0, 0, 0, 0, 0, 0, 0, 0, 0, 0, 0, 0, 0, 0, 0, 0, 0, 0, 0, 0, 0, 0, 0, 0, 0, 0, 0, 0, 0, 0, 0, 0, 0, 0, 0, 0, 0, 0, 0, 0, 0, 0, 0, (-100), 100, (-100), 100, (-100), 100, (-100), 100, 0, 0, 0, 0, 0, 0, 0, 0, 0, 0, 0, 0, 0, 0, 0, 0, 0, 0, 0, 0, 0, 0, 0, 0, 0, 0, 0, 0, 0, 0, 0, 0, 0, 0, 0, 0, 0, 0, 0, 0, 0, 0, 0, 0, 0, 0, 0, 0, 0, 0, 0, 0, 0, 0, 0, 0, 0, 0, 0, 0, 0, 0, 0, 0, 0, 0, 0, 0, 0, 0, 0, 0, 0, 0, 0, 0, 0, 0, 0, 0, 0, 0, 0, 0, 0, 0, 0, 0, 0, 0, 0, 0, 0, 0, 0, 0, 0, 0, 0, 0, 0, 0, 0, 0, 0, 0, 0, 0, 0, 0, 0, 0, 0, 0, 0, 0, 0, 0].set 684 x2)))).set 1 (.inr (0, .inl (([3, 0, 0, 0, 0, 0, 0, 0, 3, 5, 0, 0, 0, 0, 0, 0, 0, 100, 0, 0, (-1), 0, 0, 0, 0, 0, 0, 0, 0, 0, 0, 0, 0, 0, 0, 0, 0, 0, 0, 0, 0, 0, 1, 0, 0, 0, 0, 0, 0, 0, 0, 0, 0, 0, 0, 0, 0, 0, 0, 0, 0, 0, 0, 0, 0, 0, 0, 0, 0, 0, 0, 0, 0, 0, 0, 0, 0, 0, 0, 0, 0, 0, 1, 0, 0, 0, 0, 0, 0, 0, 0, 0, 0, 0, 0, 0, 0, 0, 0, 0, 0, 0, 0, 0, 0, 0, 0, 0, 0, 0, 0, 0, 0, 0, 0, 0, 0, 0, 0, 0, 0, 0, 1, 0, 0, 0, 0, 0, 0, 0, 0, 0, 0, 0, 0, 0, 0, 0, 0, 0, 0, 0, 0, 0, 0, 0, 0, 0, 0, 0, 0, 0, 0, 0, 0, 0, 0, 0, 0, 0, 0, 0, 1, 0, 0, 0, 0, 0, 0, 0, 0, 0, 0, 0, 0, 0, 0, 0, 0, 0, 0, 0, 0, 0, 0, 0, 0, 0, 0, 0, 0, 0, 0, 0, 0, 0, 0, 0, 0, 0, 0, 0, 0, 0, 0, 0, 0, 0, 0, 0, 0, 0, 0, 0, 0, 0, 0, 0, 0, 0, 0, 0, 0, 0, 0, 0, 0, 0, 0, 0, 0, 0, 0, 0, 0, 0, 0, 0, 0, 0, 0, 0, 0, 0, 0, 0, 0, 0, 0, 0, 0, 0, 0, 0, 0, 0, 0, 0, 0, 0, 0, 0, 0, 0, 0, 0, 0, 0, 0, 0, 0, 0, 0, 0, 0, 0, 0, 0, 0, 0, 0, 0, 0, 0, 0, 0, 0, 0, 0, 0, 0, 0, 0, 0, 0, 0, 0, 0, 0, 0, 0, 0, 0, 0, 0, 0, 0, 0, 0, 0, 0, 0, 0, 0, 0, 0, 0, 0, 0, 0, 0, 0, 0, 0, 0, 0, 0, 0, 0, 0, 0, 0, 0, 0, 0, 0, 0, 0, 0, 0, 0, 0, 0, 0, 0, 0, 0, 0, 0, 0, 0, 0, 0, 0, 0, 0, 0, 0, 0, 0, 0, 0, 0, 0, 0, 0, 0, 0, 0, 0, 0, 0, 0, 0, 0, 0, 0, 0, 0, 0, 0, 0, 0, 0, 0, 0, 0, 0, 0, 0, 0, 0, 0, 0, 0, 0, 0, 0, 0, 0, 0, 0, 0, 0, 0, 0, 0, 0, 0, 0, 0, 0, 0, 0, 0, 0, 0, 0, 0, 0, 0, 0, 0, 0, 0, 0, 0, 0, 0, 0, 0, 0, 0, 0, 0, 0, 0, 0, 0, 0, 0, 0, 0, 0, 0, 0, 0, 0, 0, 0, 0, 0, 0, 0, 0, 0, 0, 0, 0, 0, 0, 0, 0, 0, 0, 0, 0, 0, 0, 0, 0, 0, 0, 0, 0, 0, 0, 0, 0, 0, 0, 0, 0, 0, 0, 0, 0, 0, 0, 0, 0, 0, 0, 0, 0, 0, 0, 0, 0, 0, 0, 0, 0, 0, 0, 0, 0, 0, 0, 0, 0, 0, 0, 0, 0, 0, 0, 0, 0, 0, 0, 0, 0, 0, 0, 0, 0, 0, 0, 0, 0, 0, 0, 0, 0, 0, 0, 0, 0, 0, 0, 0, 0, 0, 0, 0, 0, 0, 0, 0, 0, 0, 0, 0, 0, 0, 0, 0, 0, 0, 0, 0, 0, 0, 0, 0, 0, 0, 0, 0, 0, 0, 0, 0, 0, 0, 0, 0, 0, 0, 0, 0, 0, 0, 0, 0, 0, 0, 0, 0, 0, 0, 0, 0, 0, 0, 0, 0, 0, 0, 0, 0, 0, 0, 0, 0, 0, 0, 0, 0, 0, 0, 0, 0, 0, 0, 0, 0, 0, 0, 0, 0, 0, 0, 0, 0, 0, 0, 0, 0, 0, 0, 0, 0, 0, 0, 0, 0, 0, 0, 0, 0, 0, 0, 0, 0, 0, 0, 0, 0, 0, 0, 0, 0, 0, 0, 0, 0, 0, 0, 0, 0, 0, 0, 0, 0, 0, 0, 0, 0, 0, 0, 0, 0, 0, 0, 0, 0, 0, 0, 0, 0, 0, 0, 0, 0, 0, 0, 0, 0, 0, 0, 0, 0, 0, 0, 0, 0, 0, 0, 0, 0, 0, 0, 0, 0, 0, 0, 0, 0, 0, 0, 0, 0, 0, 0, 0, 0, 0, 0, 0, 0, 0, 0, 0, 0, 0, 0, 0, 0, 0, 0, 0, 0, 0, 0, 0, 0, 0, 0, 0, 0, 0, 0, 0, 0, 0, 0, 0, 0, 0, 0, 0, 0, 0, 0, 0, 0, 0, 0, 0, 0, 0, 0, 0, 0, 0, 0, 0, 0, 0, 0, 0, 0, 0, 0, 0, 0, 0, 0, 0, 0, 0, 0, (-100), 100, (-100), 100, (-100), 100, (-100), 100, 0, 0, 0, 0, 0, 0, 0, 0, 0, 0, 0, 0, 0, 0, 0, 0, 0, 0, 0, 0, 0, 0, 0, 0, 0, 0, 0, 0, 0, 0, 0, 0, 0, 0, 0, 0, 0, 0, 0, 0, 0, 0, 0, 0, 0, 0, 0, 0, 0, 0, 0, 0, 0, 0, 0, 0, 0, 0, 0, 0, 0, 0, 0, 0, 0, 0, 0, 0, 0, 0, 0, 0, 0, 0, 0, 0, 0, 0, 0, 0, 0, 0, 0, 0, 0, 0, 0, 0, 0, 0, 0, 0, 0, 0, 0, 0, 0, 0, 0, 0, 0, 0, 0, 0, 0, 0, 0, 0, 0, 0, 0, 0, 0, 0, 0, 0, 0, 0].set 684 x2).set 685 x3)))), 0, 0)) rfl ?_
                  exact Ex.ret rfl rfl) (by decide)
              | 3, _ =>
                show BothI 19 149 [.int 3, .int x2, .int x3]
                exact mkI (x := 1) (c1 := 0) (s1 := 0) (c2 := 0) (s2 := 0) (by
                  refine Rn.of (me := me19) rfl ⟨Nat.le_of_ble_eq_true rfl, rfl⟩ rfl ?_
                  refine Ex.steps 3 (S' := (3, [.int 5, .int 0, .int 3], [(0, .ref 0), (1, .int 3), (2, .int x2), (3, .int x3)], hX, 0, 0)) rfl ?_
                  refine Ex.call0 (as := [.int 3, .int 0, .int 5]) (rest := []) (r := (some (.int 1))) (c1 := 0) (s1 := 0) rfl rfl rfl rfl (by
                    refine Rn.of (me := me12) rfl ⟨Nat.le_of_ble_eq_true rfl, rfl⟩ rfl ?_
                    refine Ex.steps 2 (S' := (2, [.int 0, .int 3], [(0, .int 3), (1, .int 0), (2, .int 5)], [], 0, 0)) rfl ?_
                    refine Ex.steps 1 (S' := (5, [], [(0, .int 3), (1, .int 0), (2, .int 5)], [], 0, 0)) rfl ?_
                    refine Ex.steps 2 (S' := (7, [.int 5, .int 3], [(0, .int 3), (1, .int 0), (2, .int 5)], [], 0, 0)) rfl ?_
                    refine Ex.steps 1 (S' := (10, [], [(0, .int 3), (1, .int 0), (2, .int 5)], [], 0, 0)) rfl ?_
                    refine Ex.steps 2 (S' := (15, [.int 1], [(0, .int 3), (1, .int 0), (2, .int 5)], [], 0, 0)) rfl ?_
                    exact Ex.ret rfl rfl) ?_
                  refine Ex.steps 0 (S' := (6, [.int 1], [(0, .ref 0), (1, .int 3), (2, .int x2), (3, .int x3)], hX, 0, 0)) rfl ?_
                  refine Ex.steps 1 (S' := (9, [], [(0, .ref 0), (1, .int 3), (2, .int x2), (3, .int x3)], hX, 0, 0)) rfl ?_
                  refine Ex.steps 3 (S' := (13, [.int 60, .int 0, .int x2], [(0, .ref 0), (1, .int 3), (2, .int x2), (3, .int x3)], hX, 0, 0)) rfl ?_
                  refine Ex.call0 (as := [.int x2, .int 0, .int 60]) (rest := []) (r := (some (.int 1))) (c1 := 0) (s1 := 0) rfl rfl rfl rfl (by
                    refine Rn.of (me := me12) rfl ⟨Nat.le_of_ble_eq_true rfl, rfl⟩ rfl ?_
                    refine Ex.steps 2 (S' := (2, [.int 0, .int x2], [(0, .int x2), (1, .int 0), (2, .int 60)], [], 0, 0)) rfl ?_
                    refine Ex.icmp rfl (cF_lt h3) rfl ?_
                    refine Ex.steps 2 (S' := (7, [.int 60, .int x2], [(0, .int x2), (1, .int 0), (2, .int 60)], [], 0, 0)) rfl ?_
                    refine Ex.icmp rfl (cF_gt h4) rfl ?_
                    refine Ex.steps 2 (S' := (15, [.int 1], [(0, .int x2), (1, .int 0), (2, .int 60)], [], 0, 0)) rfl ?_
                    exact Ex.ret rfl rfl) ?_
                  refine Ex.steps 0 (S' := (16, [.int 1], [(0, .ref 0), (1, .int 3), (2, .int x2), (3, .int x3)], hX, 0, 0)) rfl ?_
                  refine Ex.steps 1 (S' := (19, [], [(0, .ref 0), (1, .int 3), (2, .int x2), (3, .int x3)], hX, 0, 0)) rfl ?_
                  refine Ex.steps 3 (S' := (23, [.int 60, .int x2, .int x3], [(0, .ref 0), (1, .int 3), (2, .int x2), (3, .int x3)], hX, 0, 0)) rfl ?_
                  refine Ex.call0 (as := [.int x3, .int x2, .int 60]) (rest := []) (r := (some (.int 1))) (c1 := 0) (s1 := 0) rfl rfl rfl rfl (by
                    refine Rn.of (me := me12) rfl ⟨Nat.le_of_ble_eq_true rfl, rfl⟩ rfl ?_
                    refine Ex.steps 2 (S' := (2, [.int x2, .int x3], [(0, .int x3), (1, .int x2), (2, .int 60)], [], 0, 0)) rfl ?_
                    refine Ex.icmp rfl (cF_lt h5) rfl ?_
                    refine Ex.steps 2 (S' := (7, [.int 60, .int x3], [(0, .int x3), (1, .int x2), (2, .int 60)], [], 0, 0)) rfl ?_
                    refine Ex.icmp rfl (cF_gt h6) rfl ?_
                    refine Ex.steps 2 (S' := (15, [.int 1], [(0, .int x3), (1, .int x2), (2, .int 60)], [], 0, 0)) rfl ?_
                    exact Ex.ret rfl rfl) ?_
                  refine Ex.steps 0 (S' := (26, [.int 1], [(0, .ref 0), (1, .int 3), (2, .int x2), (3, .int x3)], hX, 0, 0)) rfl ?_
                  refine Ex.steps 1 (S' := (32, [], [(0, .ref 0), (1, .int 3), (2, .int x2), (3, .int x3)], hX, 0, 0)) rfl ?_
                  refine Ex.steps 15 (S' := (59, [.int 1], [(0, .ref 0), (1, .int 3), (2, .int x2), (3, .int x3)], ((hX.set 14 (.inr (0, .inl ((List.replicate 6 0).set 3 x2)))).set 15 (.inr (0, .inl ((List.replicate 6 0).set 3 x3)))), 0, 0)) rfl ?_
                  exact Ex.ret rfl rfl) (by
                  refine Rn.of (me := me149) rfl ⟨Nat.le_of_ble_eq_true rfl, rfl⟩ rfl ?_
                  refine Ex.steps 3 (S' := (3, [.int 5, .int 0, .int 3], [(0, .ref 0), (1, .int 3), (2, .int x2), (3, .int x3)], hM, 0, 0)) rfl ?_
                  refine Ex.call0 (as := [.int 3, .int 0, .int 5]) (rest := []) (r := (some (.int 1))) (c1 := 0) (s1 := 0) rfl rfl rfl rfl (by
                    refine Rn.of (me := me145) rfl ⟨Nat.le_of_ble_eq_true rfl, rfl⟩ rfl ?_
                    refine Ex.steps 2 (S' := (2, [.int 0, .int 3], [(0, .int 3), (1, .int 0), (2, .int 5)], [], 0, 0)) rfl ?_
                    refine Ex.steps 1 (S' := (5, [], [(0, .int 3), (1, .int 0), (2, .int 5)], [], 0, 0)) rfl ?_
                    refine Ex.steps 2 (S' := (7, [.int 5, .int 3], [(0, .int 3), (1, .int 0), (2, .int 5)], [], 0, 0)) rfl ?_
                    refine Ex.steps 1 (S' := (10, [], [(0, .int 3), (1, .int 0), (2, .int 5)], [], 0, 0)) rfl ?_
                    refine Ex.steps 2 (S' := (15, [.int 1], [(0, .int 3), (1, .int 0), (2, .int 5)], [], 0, 0)) rfl ?_
                    exact Ex.ret rfl rfl) ?_
                  refine Ex.steps 0 (S' := (6, [.int 1], [(0, .ref 0), (1, .int 3), (2, .int x2), (3, .int x3)], hM, 0, 0)) rfl ?_
                  refine Ex.steps 1 (S' := (9, [], [(0, .ref 0), (1, .int 3), (2, .int x2), (3, .int x3)], hM, 0, 0)) rfl ?_
                  refine Ex.steps 3 (S' := (13, [.int 60, .int 0, .int x2], [(0, .ref 0), (1, .int 3), (2, .int x2), (3, .int x3)], hM, 0, 0)) rfl ?_
                  refine Ex.call0 (as := [.int x2, .int 0, .int 60]) (rest := []) (r := (some (.int 1))) (c1 := 0) (s1 := 0) rfl rfl rfl rfl (by
                    refine Rn.of (me := me145) rfl ⟨Nat.le_of_ble_eq_true rfl, rfl⟩ rfl ?_
                    refine Ex.steps 2 (S' := (2, [.int 0, .int x2], [(0, .int x2), (1, .int 0), (2, .int 60)], [], 0, 0)) rfl ?_
                    refine Ex.icmp rfl (cF_lt h3) rfl ?_
                    refine Ex.steps 2 (S' := (7, [.int 60, .int x2], [(0, .int x2), (1, .int 0), (2, .int 60)], [], 0, 0)) rfl ?_
                    refine Ex.icmp rfl (cF_gt h4) rfl ?_
                    refine Ex.steps 2 (S' := (15, [.int 1], [(0, .int x2), (1, .int 0), (2, .int 60)], [], 0, 0)) rfl ?_
                    exact Ex.ret rfl rfl) ?_
                  refine Ex.steps 0 (S' := (16, [.int 1], [(0, .ref 0), (1, .int 3), (2, .int x2), (3, .int x3)], hM, 0, 0)) rfl ?_
                  refine Ex.steps 1 (S' := (19, [], [(0, .ref 0), (1, .int 3), (2, .int x2), (3, .int x3)], hM, 0, 0)) rfl ?_
                  refine Ex.steps 3 (S' := (23, [.int 60, .int x2, .int x3], [(0, .ref 0), (1, .int 3), (2, .int x2), (3, .int x3)], hM, 0, 0)) rfl ?_
                  refine Ex.call0 (as := [.int x3, .int x2, .int 60]) (rest := []) (r := (some (.int 1))) (c1 := 0) (s1 := 0) rfl rfl rfl rfl (by
                    refine Rn.of (me := me145) rfl ⟨Nat.le_of_ble_eq_true rfl, rfl⟩ rfl ?_
                    refine Ex.steps 2 (S' := (2, [.int x2, .int x3], [(0, .int x3), (1, .int x2), (2, .int 60)], [], 0, 0)) rfl ?_
                    refine Ex.icmp rfl (cF_lt h5) rfl ?_
                    refine Ex.steps 2 (S' := (7, [.int 60, .int x3], [(0, .int x3), (1, .int x2), (2, .int 60)], [], 0, 0)) rfl ?_
                    refine Ex.icmp rfl (cF_gt h6) rfl ?_
                    refine Ex.steps 2 (S' := (15, [.int 1], [(0, .int x3), (1, .int x2), (2, .int 60)], [], 0, 0)) rfl ?_
                    exact Ex.ret rfl rfl) ?_
                  refine Ex.steps 0 (S' := (26, [.int 1], [(0, .ref 0), (1, .int 3), (2, .int x2), (3, .int x3)], hM, 0, 0)) rfl ?_
                  refine Ex.steps 1 (S' := (32, [], [(0, .ref 0), (1, .int 3), (2, .int x2), (3, .int x3)], hM, 0, 0)) rfl ?_
                  refine Ex.steps 21 (S' := (61, [.int 1], [(0, .ref 0), (1, .int 3), (2, .int x2), (3, .int x3)], ((hM.set 1 (.inr (0, .inl ([3, 0, 0, 0, 0, 0, 0, 0, 3, 5, 0, 0, 0, 0, 0, 0, 0, 100, 0, 0, (-1), 0, 0, 0, 0, 0, 0, 0, 0, 0, 0, 0, 0, 0, 0, 0, 0, 0, 0, 0, 0, 0, 1, 0, 0, 0, 0, 0, 0, 0, 0, 0, 0, 0, 0, 0, 0, 0, 0, 0, 0, 0, 0, 0, 0, 0, 0, 0, 0, 0, 0, 0, 0, 0, 0, 0, 0, 0, 0, 0, 0, 0, 1, 0, 0, 0, 0, 0, 0, 0, 0, 0, 0, 0, 0, 0, 0, 0, 0, 0, 0, 0, 0, 0, 0, 0, 0, 0, 0, 0, 0, 0, 0, 0, 0, 0, 0, 0, 0, 0, 0, 0, 1, 0, 0, 0, 0, 0, 0, 0, 0, 0, 0, 0, 0, 0, 0, 0, 0, 0, 0, 0, 0, 0, 0, 0, 0, 0, 0, 0, 0, 0, 0, 0, 0, 0, 0, 0, 0, 0, 0, 0, 1, 0, 0, 0, 0, 0, 0, 0, 0, 0, 0, 0, 0, 0, 0, 0, 0, 0, 0, 0, 0, 0, 0, 0, 0, 0, 0, 0, 0, 0, 0, 0, 0, 0, 0, 0, 0, 0, 0, 0, 0, 0, 0, 0, 0, 0, 0, 0, 0, 0, 0, 0, 0, 0, 0, 0, 0, 0, 0, 0, 0, 0, 0, 0, 0, 0, 0, 0, 0, 0, 0, 0, 0, 0, 0, 0, 0, 0, 0, 0, 0, 0, 0, 0, 0, 0, 0, 0, 0, 0, 0, 0, 0, 0, 0, 0, 0, 0, 0, 0, 0, 0, 0, 0, 0, 0, 0, 0, 0, 0, 0, 0, 0, 0, 0, 0, 0, 0, 0, 0, 0, 0, 0, 0, 0, 0, 0, 0, 0, 0, 0, 0, 0, 0, 0, 0, 0, 0, 0, 0, 0, 0, 0, 0, 0, 0, 0, 0, 0, 0, 0, 0, 0, 0, 0, 0, 0, 0, 0, 0, 0, 0, 0, 0, 0, 0, 0, 0, 0, 0, 0, 0, 0, 0, 0, 0, 0, 0, 0, 0, 0, 0, 0, 0, 0, 0, 0, 0, 0, 0, 0, 0, 0, 0, 0, 0, 0, 0, 0, 0, 0, 0, 0, 0, 0, 0, 0, 0, 0, 0, 0, 0, 0, 0, 0, 0, 0, 0, 0, 0, 0, 0, 0, 0, 0, 0, 0, 0, 0, 0, 0, 0, 0, 0, 0, 0, 0, 0, 0, 0, 0, 0, 0, 0, 0, 0, 0, 0, 0, 0, 0, 0, 0, 0, 0, 0, 0, 0, 0, 0, 0, 0, 0, 0, 0, 0, 0, 0, 0, 0, 0, 0, 0, 0, 0, 0, 0, 0, 0, 0, 0, 0, 0, 0, 0, 0, 0, 0, 0, 0, 0, 0, 0, 0, 0, 0, 0, 0, 0, 0, 0, 0, 0, 0, 0, 0, 0, 0, 0, 0, 0, 0, 0, 0, 0, 0, 0, 0, 0, 0, 0, 0, 0, 0, 0, 0, 0, 0, 0, 0, 0, 0, 0, 0, 0, 0, 0, 0, 0, 0, 0, 0, 0, 0, 0, 0, 0, 0, 0, 0, 0, 0, 0, 0, 0, 0, 0, 0, 0, 0, 0, 0, 0, 0, 0, 0, 0, 0, 0, 0, 0, 0, 0, 0, 0, 0, 0, 0, 0, 0, 0, 0, 0, 0, 0, 0, 0, 0, 0, 0, 0, 0, 0, 0, 0, 0, 0, 0, 0, 0, 0, 0, 0, 0, 0, 0, 0, 0, 0, 0, 0, 0, 0, 0, 0, 0, 0, 0, 0, 0, 0, 0, 0, 0, 0, 0, 0, 0, 0, 0, 0, 0, 0, 0, 0, 0, 0, 0, 0, 0, 0, 0, 0, 0, 0, 0, 0, 0, 0, 0, 0, 0, 0, 0, 0, 0, 0, 0, 0, 0, 0, 0, 0, 0, 0, 0, 0, 0, 0, 0, 0, 0, 0, 0, 0, 0, 0, 0, 0, 0, 0, 0, 0, 0, 0, 0, 0, 0, 0, 0, 0, 0, 0, 0, 0, 0, 0, 0, 0, 0, 0, 0, 0, 0, 0, 0, 0, 0, 0, 0, 0, 0, 0, 0, 0, 0, 0, 0, 0, 0, 0, 0, 0, 0, 0, 0, 0, 0, 0, 0, 0, 0, 0, 0, 0, 0, 0, 0, 0, 0, 0, 0, 0, 0, 0, 0, 0, 0, 0, 0, 0, 0, 0, 0, 0, 0, 0, 0, 0, 0, 0, 0, 0, 0, 0, 0, 0, 0, 0, 0, 0, 0, 0, 0, 0, 0, 0, 0, 0, 0, 0, 0, 0, 0, 0, 0, 0, 0, 0, 0, 0, 0, 0, 0, 0, 0, 0, 0, 0, 0, 0, 0, 0, 0, 0, 0, 0, 0, 0, 0, 0, 0, 0, 0, 0, 0, 0, 0, 0, 0, 0, 0, (-100), 100, (-100), 100, (-100), 100, (-100), 100, 0, 0, 0, 0, 0, 0, 0, 0, 0, 0, 0, 0, 0, 0, 0, 0, 0, 0, 0, 0, 0, 0, 0, 0, 0, 0, 0, 0, 0, 0, 0, 0, 0, 0, 0, 0, 0, 0, 0, 0, 0, 0, 0, 0, 0, 0, 0, 0, 0, 0, 0, 0, 0, 0, 0, 0, 0, 0, 0, 0, 0, 0, 0, 0, 0, 0, 0, 0, 0, 0, 0, 0, 0, 0, 0, 0, 0, 0, 0, 0, 0, 0, 0, 0, 0, 0, 0, 0, 0, 0, 0, 0, 0, 0, 0, 0, 0, 0, 0, 0, 0, 0, 0, 0, 0, 0, 0, 0, 0, 0, 0, 0, 0, 0, 0, 0, 0, 0].set 686 x2)))).set 1 (.inr (0, .inl (([3, 0, 0, 0, 0, 0, 0, 0, 3, 5, 0, 0, 0, 0, 0, 0, 0, 100, 0, 0, (-1), 0, 0, 0, 0, 0, 0, 0, 0, 0, 0, 0, 0, 0, 0, 0, 0, 0, 0, 0, 0, 0, 1, 0, 0, 0, 0, 0, 0, 0, 0, 0, 0, 0, 0, 0, 0, 0, 0, 0, 0, 0, 0, 0, 0, 0, 0, 0, 0, 0, 0, 0, 0, 0, 0, 0, 0, 0, 0, 0, 0, 0, 1, 0, 0, 0, 0, 0, 0, 0, 0, 0, 0, 0, 0, 0, 0, 0, 0, 0, 0, 0, 0, 0, 0, 0, 0, 0, 0, 0, 0, 0, 0, 0, 0, 0, 0, 0, 0, 0, 0, 0, 1, 0, 0, 0, 0, 0, 0, 0, 0, 0, 0, 0, 0, 0, 0, 0, 0, 0, 0, 0, 0, 0, 0, 0, 0, 0, 0, 0, 0, 0, 0, 0, 0, 0, 0, 0, 0, 0, 0, 0, 1, 0, 0, 0, 0, 0, 0, 0, 0, 0, 0, 0, 0, 0, 0, 0, 0, 0, 0, 0, 0, 0, 0, 0, 0, 0, 0, 0, 0, 0, 0, 0, 0, 0, 0, 0, 0, 0, 0, 0, 0, 0, 0, 0, 0, 0, 0, 0, 0, 0, 0, 0, 0, 0, 0, 0, 0, 0, 0, 0, 0, 0, 0, 0, 0, 0, 0, 0, 0, 0, 0, 0, 0, 0, 0, 0, 0, 0, 0, 0, 0, 0, 0, 0, 0, 0, 0, 0, 0, 0, 0, 0, 0, 0, 0, 0, 0, 0, 0, 0, 0, 0, 0, 0, 0, 0, 0, 0, 0, 0, 0, 0, 0, 0, 0, 0, 0, 0, 0, 0, 0, 0, 0, 0, 0, 0, 0, 0, 0, 0, 0, 0, 0, 0, 0, 0, 0, 0, 0, 0, 0, 0, 0, 0, 0, 0, 0, 0, 0, 0, 0, 0, 0, 0, 0, 0, 0, 0, 0, 0, 0, 0, 0, 0, 0, 0, 0, 0, 0, 0, 0, 0, 0, 0, 0, 0, 0, 0, 0, 0, 0, 0, 0, 0, 0, 0, 0, 0, 0, 0, 0, 0, 0, 0, 0, 0, 0, 0, 0, 0, 0, 0, 0, 0, 0, 0, 0, 0, 0, 0, 0, 0, 0, 0, 0, 0, 0, 0, 0, 0, 0, 0, 0, 0, 0, 0, 0, 0, 0, 0, 0, 0, 0, 0, 0, 0, 0, 0, 0, 0, 0, 0, 0, 0, 0, 0, 0, 0, 0, 0, 0, 0, 0, 0, 0, 0, 0, 0, 0, 0, 0, 0, 0, 0, 0, 0, 0, 0, 0, 0, 0, 0, 0, 0, 0, 0, 0, 0, 0, 0, 0, 0, 0, 0, 0, 0, 0, 0, 0, 0, 0, 0, 0, 0, 0, 0, 0, 0, 0, 0, 0, 0, 0, 0, 0, 0, 0, 0, 0, 0, 0, 0, 0, 0, 0, 0, 0, 0, 0, 0, 0, 0, 0, 0, 0, 0, 0, 0, 0, 0, 0, 0, 0, 0, 0, 0, 0, 0, 0, 0, 0, 0, 0, 0, 0, 0, 0, 0, 0, 0, 0, 0, 0, 0, 0, 0, 0, 0, 0, 0, 0, 0, 0, 0, 0, 0, 0, 0, 0, 0, 0, 0, 0, 0, 0, 0, 0, 0, 0, 0, 0, 0, 0, 0, 0, 0, 0, 0, 0, 0, 0, 0, 0, 0, 0, 0, 0, 0, 0, 0, 0, 0, 0, 0, 0, 0, 0, 0, 0, 0, 0, 0, 0, 0, 0, 0, 0, 0, 0, 0, 0, 0, 0, 0, 0, 0, 0, 0, 0, 0, 0, 0, 0, 0, 0, 0, 0, 0, 0, 0, 0, 0, 0, 0, 0, 0, 0, 0, 0, 0, 0, 0, 0, 0, 0, 0, 0, 0, 0, 0, 0, 0, 0, 0, 0, 0, 0, 0, 0, 0, 0, 0, 0, 0, 0, 0, 0, 0, 0, 0, 0, 0, 0, 0, 0, 0, 0, 0, 0, 0, 0, 0, 0, 0, 0, 0, 0, 0, 0, 0, 0, 0, 0, 0, 0, 0, 0, 0, 0, 0, 0, 0, 0, 0, 0, 0, 0, 0, 0, 0, 0, 0, 0, 0, 0, 0, 0, 0, 0, 0, 0, 0, 0, 0, 0, 0, 0, 0, 0, 0, 0, 0, 0, 0, 0, 0, 0, 0, 0, 0, 0, 0, 0, 0, 0, 0, 0, 0, 0, 0, 0, 0, 0, 0, 0, 0, 0, 0, 0, 0, 0, 0, 0, 0, 0, 0, 0, 0, 0, 0, 0, 0, 0, 0, 0, 0, 0, 0, 0, 0, 0, 0, 0, 0, 0, 0, 0, 0, 0, 0, 0, 0, 0, 0, 0, 0, 0, 0, 0, 0, 0, 0, 0, 0, 0, 0, 0, 0, 0, 0, 0, 0, (-100), 100, (-100), 100, (-100), 100, (-100), 100, 0, 0, 0, 0, 0, 0, 0, 0, 0, 0, 0, 0, 0, 0, 0, 0, 0, 0, 0, 0, 0, 0, 0, 0, 0, 0, 0, 0, 0, 0, 0, 0, 0, 0, 0, 0, 0, 0, 0, 0, 0, 0, 0, 0, 0, 0, 0, 0, 0, 0, 0, 0, 0, 0, 0, 0, 0, 0, 0, 0, 0, 0, 0, 0, 0, 0, 0, 0, 0, 0, 0, 0, 0, 0, 0, 0, 0, 0, 0, 0, 0, 0, 0, 0, 0, 0, 0, 0, 0, 0, 0, 0, 0, 0, 0, 0, 0, 0, 0, 0, 0, 0, 0, 0, 0, 0, 0, 0, 0, 0, 0, 0, 0, 0, 0, 0, 0, 0].set 686 x2).set 687 x3)))), 0, 0)) rfl ?_
                  exact Ex.ret rfl rfl) (by decide)
              | 4, _ =>
                show BothI 19 149 [.int 4, .int x2, .int x3]
                exact mkI (x := 1) (c1 := 0) (s1 := 0) (c2 := 0) (s2 := 0) (by
                  refine Rn.of (me := me19) rfl ⟨Nat.le_of_ble_eq_true rfl, rfl⟩ rfl ?_
                  refine Ex.steps 3 (S' := (3, [.int 5, .int 0, .int 4], [(0, .ref 0), (1, .int 4), (2, .int x2), (3, .int x3)], hX, 0, 0)) rfl ?_
                  refine Ex.call0 (as := [.int 4, .int 0, .int 5]) (rest := []) (r := (some (.int 1))) (c1 := 0) (s1 := 0) rfl rfl rfl rfl (by
                    refine Rn.of (me := me12) rfl ⟨Nat.le_of_ble_eq_true rfl, rfl⟩ rfl ?_
                    refine Ex.steps 2 (S' := (2, [.int 0, .int 4], [(0, .int 4), (1, .int 0), (2, .int 5)], [], 0, 0)) rfl ?_
                    refine Ex.steps 1 (S' := (5, [], [(0, .int 4), (1, .int 0), (2, .int 5)], [], 0, 0)) rfl ?_
                    refine Ex.steps 2 (S' := (7, [.int 5, .int 4], [(0, .int 4), (1, .int 0), (2, .int 5)], [], 0, 0)) rfl ?_
                    refine Ex.steps 1 (S' := (10, [], [(0, .int 4), (1, .int 0), (2, .int 5)], [], 0, 0)) rfl ?_
                    refine Ex.steps 2 (S' := (15, [.int 1], [(0, .int 4), (1, .int 0), (2, .int 5)], [], 0, 0)) rfl ?_
                    exact Ex.ret rfl rfl) ?_
                  refine Ex.steps 0 (S' := (6, [.int 1], [(0, .ref 0), (1, .int 4), (2, .int x2), (3, .int x3)], hX, 0, 0)) rfl ?_
                  refine Ex.steps 1 (S' := (9, [], [(0, .ref 0), (1, .int 4), (2, .int x2), (3, .int x3)], hX, 0, 0)) rfl ?_
                  refine Ex.steps 3 (S' := (13, [.int 60, .int 0, .int x2], [(0, .ref 0), (1, .int 4), (2, .int x2), (3, .int x3)], hX, 0, 0)) rfl ?_
                  refine Ex.call0 (as := [.int x2, .int 0, .int 60]) (rest := []) (r := (some (.int 1))) (c1 := 0) (s1 := 0) rfl rfl rfl rfl (by
                    refine Rn.of (me := me12) rfl ⟨Nat.le_of_ble_eq_true rfl, rfl⟩ rfl ?_
                    refine Ex.steps 2 (S' := (2, [.int 0, .int x2], [(0, .int x2), (1, .int 0), (2, .int 60)], [], 0, 0)) rfl ?_
                    refine Ex.icmp rfl (cF_lt h3) rfl ?_
                    refine Ex.steps 2 (S' := (7, [.int 60, .int x2], [(0, .int x2), (1, .int 0), (2, .int 60)], [], 0, 0)) rfl ?_
                    refine Ex.icmp rfl (cF_gt h4) rfl ?_
                    refine Ex.steps 2 (S' := (15, [.int 1], [(0, .int x2), (1, .int 0), (2, .int 60)], [], 0, 0)) rfl ?_
                    exact Ex.ret rfl rfl) ?_
                  refine Ex.steps 0 (S' := (16, [.int 1], [(0, .ref 0), (1, .int 4), (2, .int x2), (3, .int x3)], hX, 0, 0)) rfl ?_
                  refine Ex.steps 1 (S' := (19, [], [(0, .ref 0), (1, .int 4), (2, .int x2), (3, .int x3)], hX, 0, 0)) rfl ?_
                  refine Ex.steps 3 (S' := (23, [.int 60, .int x2, .int x3], [(0, .ref 0), (1, .int 4), (2, .int x2), (3, .int x3)], hX, 0, 0)) rfl ?_
                  refine Ex.call0 (as := [.int x3, .int x2, .int 60]) (rest := []) (r := (some (.int 1))) (c1 := 0) (s1 := 0) rfl rfl rfl rfl (by
                    refine Rn.of (me := me12) rfl ⟨Nat.le_of_ble_eq_true rfl, rfl⟩ rfl ?_
                    refine Ex.steps 2 (S' := (2, [.int x2, .int x3], [(0, .int x3), (1, .int x2), (2, .int 60)], [], 0, 0)) rfl ?_
                    refine Ex.icmp rfl (cF_lt h5) rfl ?_
                    refine Ex.steps 2 (S' := (7, [.int 60, .int x3], [(0, .int x3), (1, .int x2), (2, .int 60)], [], 0, 0)) rfl ?_
                    refine Ex.icmp rfl (cF_gt h6) rfl ?_
                    refine Ex.steps 2 (S' := (15, [.int 1], [(0, .int x3), (1, .int x2), (2, .int 60)], [], 0, 0)) rfl ?_
                    exact Ex.ret rfl rfl) ?_
                  refine Ex.steps 0 (S' := (26, [.int 1], [(0, .ref 0), (1, .int 4), (2, .int x2), (3, .int x3)], hX, 0, 0)) rfl ?_
                  refine Ex.steps 1 (S' := (32, [], [(0, .ref 0), (1, .int 4), (2, .int x2), (3, .int x3)], hX, 0, 0)) rfl ?_
                  refine Ex.steps 15 (S' := (59, [.int 1], [(0, .ref 0), (1, .int 4), (2, .int x2), (3, .int x3)], ((hX.set 14 (.inr (0, .inl ((List.replicate 6 0).set 4 x2)))).set 15 (.inr (0, .inl ((List.replicate 6 0).set 4 x3)))), 0, 0)) rfl ?_
                  exact Ex.ret rfl rfl) (by
                  refine Rn.of (me := me149) rfl ⟨Nat.le_of_ble_eq_true rfl, rfl⟩ rfl ?_
                  refine Ex.steps 3 (S' := (3, [.int 5, .int 0, .int 4], [(0, .ref 0), (1, .int 4), (2, .int x2), (3, .int x3)], hM, 0, 0)) rfl ?_
                  refine Ex.call0 (as := [.int 4, .int 0, .int 5]) (rest := []) (r := (some (.int 1))) (c1 := 0) (s1 := 0) rfl rfl rfl rfl (by
                    refine Rn.of (me := me145) rfl ⟨Nat.le_of_ble_eq_true rfl, rfl⟩ rfl ?_
                    refine Ex.steps 2 (S' := (2, [.int 0, .int 4], [(0, .int 4), (1, .int 0), (2, .int 5)], [], 0, 0)) rfl ?_
                    refine Ex.steps 1 (S' := (5, [], [(0, .int 4), (1, .int 0), (2, .int 5)], [], 0, 0)) rfl ?_
                    refine Ex.steps 2 (S' := (7, [.int 5, .int 4], [(0, .int 4), (1, .int 0), (2, .int 5)], [], 0, 0)) rfl ?_
                    refine Ex.steps 1 (S' := (10, [], [(0, .int 4), (1, .int 0), (2, .int 5)], [], 0, 0)) rfl ?_
                    refine Ex.steps 2 (S' := (15, [.int 1], [(0, .int 4), (1, .int 0), (2, .int 5)], [], 0, 0)) rfl ?_
                    exact Ex.ret rfl rfl) ?_
                  refine Ex.steps 0 (S' := (6, [.int 1], [(0, .ref 0), (1, .int 4), (2, .int x2), (3, .int x3)], hM, 0, 0)) rfl ?_
                  refine Ex.steps 1 (S' := (9, [], [(0, .ref 0), (1, .int 4), (2, .int x2), (3, .int x3)], hM, 0, 0)) rfl ?_
                  refine Ex.steps 3 (S' := (13, [.int 60, .int 0, .int x2], [(0, .ref 0), (1, .int 4), (2, .int x2), (3, .int x3)], hM, 0, 0)) rfl ?_
                  refine Ex.call0 (as := [.int x2, .int 0, .int 60]) (rest := []) (r := (some (.int 1))) (c1 := 0) (s1 := 0) rfl rfl rfl rfl (by
                    refine Rn.of (me := me145) rfl ⟨Nat.le_of_ble_eq_true rfl, rfl⟩ rfl ?_
                    refine Ex.steps 2 (S' := (2, [.int 0, .int x2], [(0, .int x2), (1, .int 0), (2, .int 60)], [], 0, 0)) rfl ?_
                    refine Ex.icmp rfl (cF_lt h3) rfl ?_
                    refine Ex.steps 2 (S' := (7, [.int 60, .int x2], [(0, .int x2), (1, .int 0), (2, .int 60)], [], 0, 0)) rfl ?_
                    refine Ex.icmp rfl (cF_gt h4) rfl ?_
                    refine Ex.steps 2 (S' := (15, [.int 1], [(0, .int x2), (1, .int 0), (2, .int 60)], [], 0, 0)) rfl ?_
                    exact Ex.ret rfl rfl) ?_
                  refine Ex.steps 0 (S' := (16, [.int 1], [(0, .ref 0), (1, .int 4), (2, .int x2), (3, .int x3)], hM, 0, 0)) rfl ?_
                  refine Ex.steps 1 (S' := (19, [], [(0, .ref 0), (1, .int 4), (2, .int x2), (3, .int x3)], hM, 0, 0)) rfl ?_
                  refine Ex.steps 3 (S' := (23, [.int 60, .int x2, .int x3], [(0, .ref 0), (1, .int 4), (2, .int x2), (3, .int x3)], hM, 0, 0)) rfl ?_
                  refine Ex.call0 (as := [.int x3, .int x2, .int 60]) (rest := []) (r := (some (.int 1))) (c1 := 0) (s1 := 0) rfl rfl rfl rfl (by
                    refine Rn.of (me := me145) rfl ⟨Nat.le_of_ble_eq_true rfl, rfl⟩ rfl ?_
                    refine Ex.steps 2 (S' := (2, [.int x2, .int x3], [(0, .int x3), (1, .int x2), (2, .int 60)], [], 0, 0)) rfl ?_
                    refine Ex.icmp rfl (cF_lt h5) rfl ?_
                    refine Ex.steps 2 (S' := (7, [.int 60, .int x3], [(0, .int x3), (1, .int x2), (2, .int 60)], [], 0, 0)) rfl ?_
                    refine Ex.icmp rfl (cF_gt h6) rfl ?_
                    refine Ex.steps 2 (S' := (15, [.int 1], [(0, .int x3), (1, .int x2), (2, .int 60)], [], 0, 0)) rfl ?_
                    exact Ex.ret rfl rfl) ?_
                  refine Ex.steps 0 (S' := (26, [.int 1], [(0, .ref 0), (1, .int 4), (2, .int x2), (3, .int x3)], hM, 0, 0)) rfl ?_
                  refine Ex.steps 1 (S' := (32, [], [(0, .ref 0), (1, .int 4), (2, .int x2), (3, .int x3)], hM, 0, 0)) rfl ?_
                  refine Ex.steps 21 (S' := (61, [.int 1], [(0, .ref 0), (1, .int 4), (2, .int x2), (3, .int x3)], ((hM.set 1 (.inr (0, .inl ([3, 0, 0, 0, 0, 0, 0, 0, 3, 5, 0, 0, 0, 0, 0, 0, 0, 100, 0, 0, (-1), 0, 0, 0, 0, 0, 0, 0, 0, 0, 0, 0, 0, 0, 0, 0, 0, 0, 0, 0, 0, 0, 1, 0, 0, 0, 0, 0, 0, 0, 0, 0, 0, 0, 0, 0, 0, 0, 0, 0, 0, 0, 0, 0, 0, 0, 0, 0, 0, 0, 0, 0, 0, 0, 0, 0, 0, 0, 0, 0, 0, 0, 1, 0, 0, 0, 0, 0, 0, 0, 0, 0, 0, 0, 0, 0, 0, 0, 0, 0, 0, 0, 0, 0, 0, 0, 0, 0, 0, 0, 0, 0, 0, 0, 0, 0, 0, 0, 0, 0, 0, 0, 1, 0, 0, 0, 0, 0, 0, 0, 0, 0, 0, 0, 0, 0, 0, 0, 0, 0, 0, 0, 0, 0, 0, 0, 0, 0, 0, 0, 0, 0, 0, 0, 0, 0, 0, 0, 0, 0, 0, 0, 1, 0, 0, 0, 0, 0, 0, 0, 0, 0, 0, 0, 0, 0, 0, 0, 0, 0, 0, 0, 0, 0, 0, 0, 0, 0, 0, 0, 0, 0, 0, 0, 0, 0, 0, 0, 0, 0, 0, 0, 0, 0, 0, 0, 0, 0, 0, 0, 0, 0, 0, 0, 0, 0, 0, 0, 0, 0, 0, 0, 0, 0, 0, 0, 0, 0, 0, 0, 0, 0, 0, 0, 0, 0, 0, 0, 0, 0, 0, 0, 0, 0, 0, 0, 0, 0, 0, 0, 0, 0, 0, 0, 0, 0, 0, 0, 0, 0, 0, 0, 0, 0, 0, 0, 0, 0, 0, 0, 0, 0, 0, 0, 0, 0, 0, 0, 0, 0, 0, 0, 0, 0, 0, 0, 0, 0, 0, 0, 0, 0, 0, 0, 0, 0, 0, 0, 0, 0, 0, 0, 0, 0, 0, 0, 0, 0, 0, 0, 0, 0, 0, 0, 0, 0, 0, 0, 0, 0, 0, 0, 0, 0, 0, 0, 0, 0, 0, 0, 0, 0, 0, 0, 0, 0, 0, 0, 0, 0, 0, 0, 0, 0, 0, 0, 0, 0, 0, 0, 0, 0, 0, 0, 0, 0, 0, 0, 0, 0, 0, 0, 0, 0, 0, 0, 0, 0, 0, 0, 0, 0, 0, 0, 0, 0, 0, 0, 0, 0, 0, 0, 0, 0, 0, 0, 0, 0, 0, 0, 0, 0, 0, 0, 0, 0, 0, 0, 0, 0, 0, 0, 0, 0, 0, 0, 0, 0, 0, 0, 0, 0, 0, 0, 0, 0, 0, 0, 0, 0, 0, 0, 0, 0, 0, 0, 0, 0, 0, 0, 0, 0, 0, 0, 0, 0, 0, 0, 0, 0, 0, 0, 0, 0, 0, 0, 0, 0, 0, 0, 0, 0, 0, 0, 0, 0, 0, 0, 0, 0, 0, 0, 0, 0, 0, 0, 0, 0, 0, 0, 0, 0, 0, 0, 0, 0, 0, 0, 0, 0, 0, 0, 0, 0, 0, 0, 0, 0, 0, 0, 0, 0, 0, 0, 0, 0, 0, 0, 0, 0, 0, 0, 0, 0, 0, 0, 0, 0, 0, 0, 0, 0, 0, 0, 0, 0, 0, 0, 0, 0, 0, 0, 0, 0, 0, 0, 0, 0, 0, 0, 0, 0, 0, 0, 0, 0, 0, 0, 0, 0, 0, 0, 0, 0, 0, 0, 0, 0, 0, 0, 0, 0, 0, 0, 0, 0, 0, 0, 0, 0, 0, 0, 0, 0, 0, 0, 0, 0, 0, 0, 0, 0, 0, 0, 0, 0, 0, 0, 0, 0, 0, 0, 0, 0, 0, 0, 0, 0, 0, 0, 0, 0, 0, 0, 0, 0, 0, 0, 0, 0, 0, 0, 0, 0, 0, 0, 0, 0, 0, 0, 0, 0, 0, 0, 0, 0, 0, 0, 0, 0, 0, 0, 0, 0, 0, 0, 0, 0, 0, 0, 0, 0, 0, 0, 0, 0, 0, 0, 0, 0, 0, 0, 0, 0, 0, 0, 0, 0, 0, 0, 0, 0, 0, 0, 0, 0, 0, 0, 0, 0, 0, 0, 0, 0, 0, 0, 0, 0, 0, 0, 0, 0, 0, 0, 0, 0, 0, 0, 0, 0, 0, 0, 0, 0, 0, 0, 0, 0, 0, 0, 0, 0, 0, 0, 0, 0, 0, 0, 0, 0, 0, 0, 0, 0, 0, 0, 0, 0, 0, 0, 0, 0, 0, 0, 0, 0, 0, 0, 0, 0, 0, 0, 0, 0, 0, 0, 0, 0, 0, 0, 0, 0, 0, 0, 0, 0, 0, 0, 0, 0, 0, 0, 0, 0, 0, 0, 0, 0, 0, 0, 0, 0, 0, 0, 0, 0, 0, 0, 0, 0, 0, 0, 0, 0, 0, 0, 0, 0, 0, 0, 0, 0, 0, 0, 0, 0, 0, 0, 0, 0, 0, 0, 0, 0, (-100), 100, (-100), 100, (-100), 100, (-100), 100, 0, 0, 0, 0, 0, 0, 0, 0, 0, 0, 0, 0, 0, 0, 0, 0, 0, 0, 0, 0, 0, 0, 0, 0, 0, 0, 0, 0, 0, 0, 0, 0, 0, 0, 0, 0, 0, 0, 0, 0, 0, 0, 0, 0, 0, 0, 0, 0, 0, 0, 0, 0, 0, 0, 0, 0, 0, 0, 0, 0, 0, 0, 0, 0, 0, 0, 0, 0, 0, 0, 0, 0, 0, 0, 0, 0, 0, 0, 0, 0, 0, 0, 0, 0, 0, 0, 0, 0, 0, 0, 0, 0, 0, 0, 0, 0, 0, 0, 0, 0, 0, 0, 0, 0, 0, 0, 0, 0, 0, 0, 0, 0, 0, 0, 0, 0, 0, 0].set 688 x2)))).set 1 (.inr (0, .inl (([3, 0, 0, 0, 0, 0, 0, 0, 3, 5, 0, 0, 0, 0, 0, 0, 0, 100, 0, 0, (-1), 0, 0, 0, 0, 0, 0, 0, 0, 0, 0, 0, 0, 0, 0, 0, 0, 0, 0, 0, 0, 0, 1, 0, 0, 0, 0, 0, 0, 0, 0, 0, 0, 0, 0, 0, 0, 0, 0, 0, 0, 0, 0, 0, 0, 0, 0, 0, 0, 0, 0, 0, 0, 0, 0, 0, 0, 0, 0, 0, 0, 0, 1, 0, 0, 0, 0, 0, 0, 0, 0, 0, 0, 0, 0, 0, 0, 0, 0, 0, 0, 0, 0, 0, 0, 0, 0, 0, 0, 0, 0, 0, 0, 0, 0, 0, 0, 0, 0, 0, 0, 0, 1, 0, 0, 0, 0, 0, 0, 0, 0, 0, 0, 0, 0, 0, 0, 0, 0, 0, 0, 0, 0, 0, 0, 0, 0, 0, 0, 0, 0, 0, 0, 0, 0, 0, 0, 0, 0, 0, 0, 0, 1, 0, 0, 0, 0, 0, 0, 0, 0, 0, 0, 0, 0, 0, 0, 0, 0, 0, 0, 0, 0, 0, 0, 0, 0, 0, 0, 0, 0, 0, 0, 0, 0, 0, 0, 0, 0, 0, 0, 0, 0, 0, 0, 0, 0, 0, 0, 0, 0, 0, 0, 0, 0, 0, 0, 0, 0, 0, 0, 0, 0, 0, 0, 0, 0, 0, 0, 0, 0, 0, 0, 0, 0, 0, 0, 0, 0, 0, 0, 0, 0, 0, 0, 0, 0, 0, 0, 0, 0, 0, 0, 0, 0, 0, 0, 0, 0, 0, 0, 0, 0, 0, 0, 0, 0, 0, 0, 0, 0, 0, 0, 0, 0, 0, 0, 0, 0, 0, 0, 0, 0, 0, 0, 0, 0, 0, 0, 0, 0, 0, 0, 0, 0, 0, 0, 0, 0, 0, 0, 0, 0, 0, 0, 0, 0, 0, 0, 0, 0, 0, 0, 0, 0, 0, 0, 0, 0, 0, 0, 0, 0, 0, 0, 0, 0, 0, 0, 0, 0, 0, 0, 0, 0, 0, 0, 0, 0, 0, 0, 0, 0, 0, 0, 0, 0, 0, 0, 0, 0, 0, 0, 0, 0, 0, 0, 0, 0, 0, 0, 0, 0, 0, 0, 0, 0, 0, 0, 0, 0, 0, 0, 0, 0, 0, 0, 0, 0, 0, 0, 0, 0, 0, 0, 0, 0, 0, 0, 0, 0, 0, 0, 0, 0, 0, 0, 0, 0, 0, 0, 0, 0, 0, 0, 0, 0, 0, 0, 0, 0, 0, 0, 0, 0, 0, 0, 0, 0, 0, 0, 0, 0, 0, 0, 0, 0, 0, 0, 0, 0, 0, 0, 0, 0, 0, 0, 0, 0, 0, 0, 0, 0, 0, 0, 0, 0, 0, 0, 0, 0, 0, 0, 0, 0, 0, 0, 0, 0, 0, 0, 0, 0, 0, 0, 0, 0, 0, 0, 0, 0, 0, 0, 0, 0, 0, 0, 0, 0, 0, 0, 0, 0, 0, 0, 0, 0, 0, 0, 0, 0, 0, 0, 0, 0, 0, 0, 0, 0, 0, 0, 0, 0, 0, 0, 0, 0, 0, 0, 0, 0, 0, 0, 0, 0, 0, 0, 0, 0, 0, 0, 0, 0, 0, 0, 0, 0, 0, 0, 0, 0, 0, 0, 0, 0, 0, 0, 0, 0, 0, 0, 0, 0, 0, 0, 0, 0, 0, 0, 0, 0, 0, 0, 0, 0, 0, 0, 0, 0, 0, 0, 0, 0, 0, 0, 0, 0, 0, 0, 0, 0, 0, 0, 0, 0, 0, 0, 0, 0, 0, 0, 0, 0, 0, 0, 0, 0, 0, 0, 0, 0, 0, 0, 0, 0, 0, 0, 0, 0, 0, 0, 0, 0, 0, 0, 0, 0, 0, 0, 0, 0, 0, 0, 0, 0, 0, 0, 0, 0, 0, 0, 0, 0, 0, 0, 0, 0, 0, 0, 0, 0, 0, 0, 0, 0, 0, 0, 0, 0, 0, 0, 0, 0, 0, 0, 0, 0, 0, 0, 0, 0, 0, 0, 0, 0, 0, 0, 0, 0, 0, 0, 0, 0, 0, 0, 0, 0, 0, 0, 0, 0, 0, 0, 0, 0, 0, 0, 0, 0, 0, 0, 0, 0, 0, 0, 0, 0, 0, 0, 0, 0, 0, 0, 0, 0, 0, 0, 0, 0, 0, 0, 0, 0, 0, 0, 0, 0, 0, 0, 0, 0, 0, 0, 0, 0, 0, 0, 0, 0, 0, 0, 0, 0, 0, 0, 0, 0, 0, 0, 0, 0, 0, 0, 0, 0, 0, 0, 0, 0, 0, 0, 0, 0, 0, 0, 0, 0, 0, 0, 0, 0, 0, 0, 0, 0, 0, 0, 0, 0, 0, 0, 0, 0, 0, 0, 0, 0, 0, 0, 0, 0, 0, 0, 0, 0, 0, 0, 0, 0, 0, 0, 0, 0, 0, (-100), 100, (-100), 100, (-100), 100, (-100), 100, 0, 0, 0, 0, 0, 0, 0, 0, 0, 0, 0, 0, 0, 0, 0, 0, 0, 0, 0, 0, 0, 0, 0, 0, 0, 0, 0, 0, 0, 0, 0, 0, 0, 0, 0, 0, 0, 0, 0, 0, 0, 0, 0, 0, 0, 0, 0, 0, 0, 0, 0, 0, 0, 0, 0, 0, 0, 0, 0, 0, 0, 0, 0, 0, 0, 0, 0, 0, 0, 0, 0, 0, 0, 0, 0, 0, 0, 0, 0, 0, 0, 0, 0, 0, 0, 0, 0, 0, 0, 0, 0, 0, 0, 0, 0, 0, 0, 0, 0, 0, 0, 0, 0, 0, 0, 0, 0, 0, 0, 0, 0, 0, 0, 0, 0, 0, 0, 0].set 688 x2).set 689 x3)))), 0, 0)) rfl ?_
                  exact Ex.ret rfl rfl) (by decide)
              | 5, _ =>
                show BothI 19 149 [.int 5, .int x2, .int x3]
                exact mkI (x := 1) (c1 := 0) (s1 := 0) (c2 := 0) (s2 := 0) (by
                  refine Rn.of (me := me19) rfl ⟨Nat.le_of_ble_eq_true rfl, rfl⟩ rfl ?_
                  refine Ex.steps 3 (S' := (3, [.int 5, .int 0, .int 5], [(0, .ref 0), (1, .int 5), (2, .int x2), (3, .int x3)], hX, 0, 0)) rfl ?_
                  refine Ex.call0 (as := [.int 5, .int 0, .int 5]) (rest := []) (r := (some (.int 1))) (c1 := 0) (s1 := 0) rfl rfl rfl rfl (by
                    refine Rn.of (me := me12) rfl ⟨Nat.le_of_ble_eq_true rfl, rfl⟩ rfl ?_
                    refine Ex.steps 2 (S' := (2, [.int 0, .int 5], [(0, .int 5), (1, .int 0), (2, .int 5)], [], 0, 0)) rfl ?_
                    refine Ex.steps 1 (S' := (5, [], [(0, .int 5), (1, .int 0), (2, .int 5)], [], 0, 0)) rfl ?_
                    refine Ex.steps 2 (S' := (7, [.int 5, .int 5], [(0, .int 5), (1, .int 0), (2, .int 5)], [], 0, 0)) rfl ?_
                    refine Ex.steps 1 (S' := (10, [], [(0, .int 5), (1, .int 0), (2, .int 5)], [], 0, 0)) rfl ?_
                    refine Ex.steps 2 (S' := (15, [.int 1], [(0, .int 5), (1, .int 0), (2, .int 5)], [], 0, 0)) rfl ?_
                    exact Ex.ret rfl rfl) ?_
                  refine Ex.steps 0 (S' := (6, [.int 1], [(0, .ref 0), (1, .int 5), (2, .int x2), (3, .int x3)], hX, 0, 0)) rfl ?_
                  refine Ex.steps 1 (S' := (9, [], [(0, .ref 0), (1, .int 5), (2, .int x2), (3, .int x3)], hX, 0, 0)) rfl ?_
                  refine Ex.steps 3 (S' := (13, [.int 60, .int 0, .int x2], [(0, .ref 0), (1, .int 5), (2, .int x2), (3, .int x3)], hX, 0, 0)) rfl ?_
                  refine Ex.call0 (as := [.int x2, .int 0, .int 60]) (rest := []) (r := (some (.int 1))) (c1 := 0) (s1 := 0) rfl rfl rfl rfl (by
                    refine Rn.of (me := me12) rfl ⟨Nat.le_of_ble_eq_true rfl, rfl⟩ rfl ?_
                    refine Ex.steps 2 (S' := (2, [.int 0, .int x2], [(0, .int x2), (1, .int 0), (2, .int 60)], [], 0, 0)) rfl ?_
                    refine Ex.icmp rfl (cF_lt h3) rfl ?_
                    refine Ex.steps 2 (S' := (7, [.int 60, .int x2], [(0, .int x2), (1, .int 0), (2, .int 60)], [], 0, 0)) rfl ?_
                    refine Ex.icmp rfl (cF_gt h4) rfl ?_
                    refine Ex.steps 2 (S' := (15, [.int 1], [(0, .int x2), (1, .int 0), (2, .int 60)], [], 0, 0)) rfl ?_
                    exact Ex.ret rfl rfl) ?_
                  refine Ex.steps 0 (S' := (16, [.int 1], [(0, .ref 0), (1, .int 5), (2, .int x2), (3, .int x3)], hX, 0, 0)) rfl ?_
                  refine Ex.steps 1 (S' := (19, [], [(0, .ref 0), (1, .int 5), (2, .int x2), (3, .int x3)], hX, 0, 0)) rfl ?_
                  refine Ex.steps 3 (S' := (23, [.int 60, .int x2, .int x3], [(0, .ref 0), (1, .int 5), (2, .int x2), (3, .int x3)], hX, 0, 0)) rfl ?_
                  refine Ex.call0 (as := [.int x3, .int x2, .int 60]) (rest := []) (r := (some (.int 1))) (c1 := 0) (s1 := 0) rfl rfl rfl rfl (by
                    refine Rn.of (me := me12) rfl ⟨Nat.le_of_ble_eq_true rfl, rfl⟩ rfl ?_
                    refine Ex.steps 2 (S' := (2, [.int x2, .int x3], [(0, .int x3), (1, .int x2), (2, .int 60)], [], 0, 0)) rfl ?_
                    refine Ex.icmp rfl (cF_lt h5) rfl ?_
                    refine Ex.steps 2 (S' := (7, [.int 60, .int x3], [(0, .int x3), (1, .int x2), (2, .int 60)], [], 0, 0)) rfl ?_
                    refine Ex.icmp rfl (cF_gt h6) rfl ?_
                    refine Ex.steps 2 (S' := (15, [.int 1], [(0, .int x3), (1, .int x2), (2, .int 60)], [], 0, 0)) rfl ?_
                    exact Ex.ret rfl rfl) ?_
                  refine Ex.steps 0 (S' := (26, [.int 1], [(0, .ref 0), (1, .int 5), (2, .int x2), (3, .int x3)], hX, 0, 0)) rfl ?_
                  refine Ex.steps 1 (S' := (32, [], [(0, .ref 0), (1, .int 5), (2, .int x2), (3, .int x3)], hX, 0, 0)) rfl ?_
                  refine Ex.steps 15 (S' := (59, [.int 1], [(0, .ref 0), (1, .int 5), (2, .int x2), (3, .int x3)], ((hX.set 14 (.inr (0, .inl ((List.replicate 6 0).set 5 x2)))).set 15 (.inr (0, .inl ((List.replicate 6 0).set 5 x3)))), 0, 0)) rfl ?_
                  exact Ex.ret rfl rfl) (by
                  refine Rn.of (me := me149) rfl ⟨Nat.le_of_ble_eq_true rfl, rfl⟩ rfl ?_
                  refine Ex.steps 3 (S' := (3, [.int 5, .int 0, .int 5], [(0, .ref 0), (1, .int 5), (2, .int x2), (3, .int x3)], hM, 0, 0)) rfl ?_
                  refine Ex.call0 (as := [.int 5, .int 0, .int 5]) (rest := []) (r := (some (.int 1))) (c1 := 0) (s1 := 0) rfl rfl rfl rfl (by
                    refine Rn.of (me := me145) rfl ⟨Nat.le_of_ble_eq_true rfl, rfl⟩ rfl ?_
                    refine Ex.steps 2 (S' := (2, [.int 0, .int 5], [(0, .int 5), (1, .int 0), (2, .int 5)], [], 0, 0)) rfl ?_
                    refine Ex.steps 1 (S' := (5, [], [(0, .int 5), (1, .int 0), (2, .int 5)], [], 0, 0)) rfl ?_
                    refine Ex.steps 2 (S' := (7, [.int 5, .int 5], [(0, .int 5), (1, .int 0), (2, .int 5)], [], 0, 0)) rfl ?_
                    refine Ex.steps 1 (S' := (10, [], [(0, .int 5), (1, .int 0), (2, .int 5)], [], 0, 0)) rfl ?_
                    refine Ex.steps 2 (S' := (15, [.int 1], [(0, .int 5), (1, .int 0), (2, .int 5)], [], 0, 0)) rfl ?_
                    exact Ex.ret rfl rfl) ?_
                  refine Ex.steps 0 (S' := (6, [.int 1], [(0, .ref 0), (1, .int 5), (2, .int x2), (3, .int x3)], hM, 0, 0)) rfl ?_
                  refine Ex.steps 1 (S' := (9, [], [(0, .ref 0), (1, .int 5), (2, .int x2), (3, .int x3)], hM, 0, 0)) rfl ?_
                  refine Ex.steps 3 (S' := (13, [.int 60, .int 0, .int x2], [(0, .ref 0), (1, .int 5), (2, .int x2), (3, .int x3)], hM, 0, 0)) rfl ?_
                  refine Ex.call0 (as := [.int x2, .int 0, .int 60]) (rest := []) (r := (some (.int 1))) (c1 := 0) (s1 := 0) rfl rfl rfl rfl (by
                    refine Rn.of (me := me145) rfl ⟨Nat.le_of_ble_eq_true rfl, rfl⟩ rfl ?_
                    refine Ex.steps 2 (S' := (2, [.int 0, .int x2], [(0, .int x2), (1, .int 0), (2, .int 60)], [], 0, 0)) rfl ?_
                    refine Ex.icmp rfl (cF_lt h3) rfl ?_
                    refine Ex.steps 2 (S' := (7, [.int 60, .int x2], [(0, .int x2), (1, .int 0), (2, .int 60)], [], 0, 0)) rfl ?_
                    refine Ex.icmp rfl (cF_gt h4) rfl ?_
                    refine Ex.steps 2 (S' := (15, [.int 1], [(0, .int x2), (1, .int 0), (2, .int 60)], [], 0, 0)) rfl ?_
                    exact Ex.ret rfl rfl) ?_
                  refine Ex.steps 0 (S' := (16, [.int 1], [(0, .ref 0), (1, .int 5), (2, .int x2), (3, .int x3)], hM, 0, 0)) rfl ?_
                  refine Ex.steps 1 (S' := (19, [], [(0, .ref 0), (1, .int 5), (2, .int x2), (3, .int x3)], hM, 0, 0)) rfl ?_
                  refine Ex.steps 3 (S' := (23, [.int 60, .int x2, .int x3], [(0, .ref 0), (1, .int 5), (2, .int x2), (3, .int x3)], hM, 0, 0)) rfl ?_
                  refine Ex.call0 (as := [.int x3, .int x2, .int 60]) (rest := []) (r := (some (.int 1))) (c1 := 0) (s1 := 0) rfl rfl rfl rfl (by
                    refine Rn.of (me := me145) rfl ⟨Nat.le_of_ble_eq_true rfl, rfl⟩ rfl ?_
                    refine Ex.steps 2 (S' := (2, [.int x2, .int x3], [(0, .int x3), (1, .int x2), (2, .int 60)], [], 0, 0)) rfl ?_
                    refine Ex.icmp rfl (cF_lt h5) rfl ?_
                    refine Ex.steps 2 (S' := (7, [.int 60, .int x3], [(0, .int x3), (1, .int x2), (2, .int 60)], [], 0, 0)) rfl ?_
                    refine Ex.icmp rfl (cF_gt h6) rfl ?_
                    refine Ex.steps 2 (S' := (15, [.int 1], [(0, .int x3), (1, .int x2), (2, .int 60)], [], 0, 0)) rfl ?_
                    exact Ex.ret rfl rfl) ?_
                  refine Ex.steps 0 (S' := (26, [.int 1], [(0, .ref 0), (1, .int 5), (2, .int x2), (3, .int x3)], hM, 0, 0)) rfl ?_
                  refine Ex.steps 1 (S' := (32, [], [(0, .ref 0), (1, .int 5), (2, .int x2), (3, .int x3)], hM, 0, 0)) rfl ?_
                  refine Ex.steps 21 (S' := (61, [.int 1], [(0, .ref 0), (1, .int 5), (2, .int x2), (3, .int x3)], ((hM.set 1 (.inr (0, .inl ([3, 0, 0, 0, 0, 0, 0, 0, 3, 5, 0, 0, 0, 0, 0, 0, 0, 100, 0, 0, (-1), 0, 0, 0, 0, 0, 0, 0, 0, 0, 0, 0, 0, 0, 0, 0, 0, 0, 0, 0, 0, 0, 1, 0, 0, 0, 0, 0, 0, 0, 0, 0, 0, 0, 0, 0, 0, 0, 0, 0, 0, 0, 0, 0, 0, 0, 0, 0, 0, 0, 0, 0, 0, 0, 0, 0, 0, 0, 0, 0, 0, 0, 1, 0, 0, 0, 0, 0, 0, 0, 0, 0, 0, 0, 0, 0, 0, 0, 0, 0, 0, 0, 0, 0, 0, 0, 0, 0, 0, 0, 0, 0, 0, 0, 0, 0, 0, 0, 0, 0, 0, 0, 1, 0, 0, 0, 0, 0, 0, 0, 0, 0, 0, 0, 0, 0, 0, 0, 0, 0, 0, 0, 0, 0, 0, 0, 0, 0, 0, 0, 0, 0, 0, 0, 0, 0, 0, 0, 0, 0, 0, 0, 1, 0, 0, 0, 0, 0, 0, 0, 0, 0, 0, 0, 0, 0, 0, 0, 0, 0, 0, 0, 0, 0, 0, 0, 0, 0, 0, 0, 0, 0, 0, 0, 0, 0, 0, 0, 0, 0, 0, 0, 0, 0, 0, 0, 0, 0, 0, 0, 0, 0, 0, 0, 0, 0, 0, 0, 0, 0, 0, 0, 0, 0, 0, 0, 0, 0, 0, 0, 0, 0, 0, 0, 0, 0, 0, 0, 0, 0, 0, 0, 0, 0, 0, 0, 0, 0, 0, 0, 0, 0, 0, 0, 0, 0, 0, 0, 0, 0, 0, 0, 0, 0, 0, 0, 0, 0, 0, 0, 0, 0, 0, 0, 0, 0, 0, 0, 0, 0, 0, 0, 0, 0, 0, 0, 0, 0, 0, 0, 0, 0, 0, 0, 0, 0, 0, 0, 0, 0, 0, 0, 0, 0, 0, 0, 0, 0, 0, 0, 0, 0, 0, 0, 0, 0, 0, 0, 0, 0, 0, 0, 0, 0, 0, 0, 0, 0, 0, 0, 0, 0, 0, 0, 0, 0, 0, 0, 0, 0, 0, 0, 0, 0, 0, 0, 0, 0, 0, 0, 0, 0, 0, 0, 0, 0, 0, 0, 0, 0, 0, 0, 0, 0, 0, 0, 0, 0, 0, 0, 0, 0, 0, 0, 0, 0, 0, 0, 0, 0, 0, 0, 0, 0, 0, 0, 0, 0, 0, 0, 0, 0, 0, 0, 0, 0, 0, 0, 0, 0, 0, 0, 0, 0, 0, 0, 0, 0, 0, 0, 0, 0, 0, 0, 0, 0, 0, 0, 0, 0, 0, 0, 0, 0, 0, 0, 0, 0, 0, 0, 0, 0, 0, 0, 0, 0, 0, 0, 0, 0, 0, 0, 0, 0, 0, 0, 0, 0, 0, 0, 0, 0, 0, 0, 0, 0, 0, 0, 0, 0, 0, 0, 0, 0, 0, 0, 0, 0, 0, 0, 0, 0, 0, 0, 0, 0, 0, 0, 0, 0, 0, 0, 0, 0, 0, 0, 0, 0, 0, 0, 0, 0, 0, 0, 0, 0, 0, 0, 0, 0, 0, 0, 0, 0, 0, 0, 0, 0, 0, 0, 0, 0, 0, 0, 0, 0, 0, 0, 0, 0, 0, 0, 0, 0, 0, 0, 0, 0, 0, 0, 0, 0, 0, 0, 0, 0, 0, 0, 0, 0, 0, 0, 0, 0, 0, 0, 0, 0, 0, 0, 0, 0, 0, 0, 0, 0, 0, 0, 0, 0, 0, 0, 0, 0, 0, 0, 0, 0, 0, 0, 0, 0, 0, 0, 0, 0, 0, 0, 0, 0, 0, 0, 0, 0, 0, 0, 0, 0, 0, 0, 0, 0, 0, 0, 0, 0, 0, 0, 0, 0, 0, 0, 0, 0, 0, 0, 0, 0, 0, 0, 0, 0, 0, 0, 0, 0, 0, 0, 0, 0, 0, 0, 0, 0, 0, 0, 0, 0, 0, 0, 0, 0, 0, 0, 0, 0, 0, 0, 0, 0, 0, 0, 0, 0, 0, 0, 0, 0, 0, 0, 0, 0, 0, 0, 0, 0, 0, 0, 0, 0, 0, 0, 0, 0, 0, 0, 0, 0, 0, 0, 0, 0, 0, 0, 0, 0, 0, 0, 0, 0, 0, 0, 0, 0, 0, 0, 0, 0, 0, 0, 0, 0, 0, 0, 0, 0, 0, 0, 0, 0, 0, 0, 0, 0, 0, 0, 0, 0, 0, 0, 0, 0, 0, 0, 0, 0, 0, 0, 0, 0, 0, 0, 0, 0, 0, 0, 0, 0, 0, 0, 0, 0, 0, 0, 0, 0, 0, 0, 0, 0, 0, 0, 0, 0, 0, 0, 0, 0, 0, 0, 0, 0, 0, 0, 0, 0, 0, 0, 0, 0, 0, 0, 0, 0, 0, 0, 0, 0, 0, 0, 0, 0, 0, 0, 0, 0, 0, 0, 0, 0, 0, 0, 0, 0, (-100), 100, (-100), 100, (-100), 100, (-100), 100, 0, 0, 0, 0, 0, 0, 0, 0, 0, 0, 0, 0, 0, 0, 0, 0, 0, 0, 0, 0, 0, 0, 0, 0, 0, 0, 0, 0, 0, 0, 0, 0, 0, 0, 0, 0, 0, 0, 0, 0, 0, 0, 0, 0, 0, 0, 0, 0, 0, 0, 0, 0, 0, 0, 0, 0, 0, 0, 0, 0, 0, 0, 0, 0, 0, 0, 0, 0, 0, 0, 0, 0, 0, 0, 0, 0, 0, 0, 0, 0, 0, 0, 0, 0, 0, 0, 0, 0, 0, 0, 0, 0, 0, 0, 0, 0, 0, 0, 0, 0, 0, 0, 0, 0, 0, 0, 0, 0, 0, 0, 0, 0, 0, 0, 0, 0, 0, 0].set 690 x2)))).set 1 (.inr (0, .inl (([3, 0, 0, 0, 0, 0, 0, 0, 3, 5, 0, 0, 0, 0, 0, 0, 0, 100, 0, 0, (-1), 0, 0, 0, 0, 0, 0, 0, 0, 0, 0, 0, 0, 0, 0, 0, 0, 0, 0, 0, 0, 0, 1, 0, 0, 0, 0, 0, 0, 0, 0, 0, 0, 0, 0, 0, 0, 0, 0, 0, 0, 0, 0, 0, 0, 0, 0, 0, 0, 0, 0, 0, 0, 0, 0, 0, 0, 0, 0, 0, 0, 0, 1, 0, 0, 0, 0, 0, 0, 0, 0, 0, 0, 0, 0, 0, 0, 0, 0, 0, 0, 0, 0, 0, 0, 0, 0, 0, 0, 0, 0, 0, 0, 0, 0, 0, 0, 0, 0, 0, 0, 0, 1, 0, 0, 0, 0, 0, 0, 0, 0, 0, 0, 0, 0, 0, 0, 0, 0, 0, 0, 0, 0, 0, 0, 0, 0, 0, 0, 0, 0, 0, 0, 0, 0, 0, 0, 0, 0, 0, 0, 0, 1, 0, 0, 0, 0, 0, 0, 0, 0, 0, 0, 0, 0, 0, 0, 0, 0, 0, 0, 0, 0, 0, 0, 0, 0, 0, 0, 0, 0, 0, 0, 0, 0, 0, 0, 0, 0, 0, 0, 0, 0, 0, 0, 0, 0, 0, 0, 0, 0, 0, 0, 0, 0, 0, 0, 0, 0, 0, 0, 0, 0, 0, 0, 0, 0, 0, 0, 0, 0, 0, 0, 0, 0, 0, 0, 0, 0, 0, 0, 0, 0, 0, 0, 0, 0, 0, 0, 0, 0, 0, 0, 0, 0, 0, 0, 0, 0, 0, 0, 0, 0, 0, 0, 0, 0, 0, 0, 0, 0, 0, 0, 0, 0, 0, 0, 0, 0, 0, 0, 0, 0, 0, 0, 0, 0, 0, 0, 0, 0, 0, 0, 0, 0, 0, 0, 0, 0, 0, 0, 0, 0, 0, 0, 0, 0, 0, 0, 0, 0, 0, 0, 0, 0, 0, 0, 0, 0, 0, 0, 0, 0, 0, 0, 0, 0, 0, 0, 0, 0, 0, 0, 0, 0, 0, 0, 0, 0, 0, 0, 0, 0, 0, 0, 0, 0, 0, 0, 0, 0, 0, 0, 0, 0, 0, 0, 0, 0, 0, 0, 0, 0, 0, 0, 0, 0, 0, 0, 0, 0, 0, 0, 0, 0, 0, 0, 0, 0, 0, 0, 0, 0, 0, 0, 0, 0, 0, 0, 0, 0, 0, 0, 0, 0, 0, 0, 0, 0, 0, 0, 0, 0, 0, 0, 0, 0, 0, 0, 0, 0, 0, 0, 0, 0, 0, 0, 0, 0, 0, 0, 0, 0, 0, 0, 0, 0, 0, 0, 0, 0, 0, 0, 0, 0, 0, 0, 0, 0, 0, 0, 0, 0, 0, 0, 0, 0, 0, 0, 0, 0, 0, 0, 0, 0, 0, 0, 0, 0, 0, 0, 0, 0, 0, 0, 0, 0, 0, 0, 0, 0, 0, 0, 0, 0, 0, 0, 0, 0, 0, 0, 0, 0, 0, 0, 0, 0, 0, 0, 0, 0, 0, 0, 0, 0, 0, 0, 0, 0, 0, 0, 0, 0, 0, 0, 0, 0, 0, 0, 0, 0, 0, 0, 0, 0, 0, 0, 0, 0, 0, 0, 0, 0, 0, 0, 0, 0, 0, 0, 0, 0, 0, 0, 0, 0, 0, 0, 0, 0, 0, 0, 0, 0, 0, 0, 0, 0, 0, 0, 0, 0, 0, 0, 0, 0, 0, 0, 0, 0, 0, 0, 0, 0, 0, 0, 0, 0, 0, 0, 0, 0, 0, 0, 0, 0, 0, 0, 0, 0, 0, 0, 0, 0, 0, 0, 0, 0, 0, 0, 0, 0, 0, 0, 0, 0, 0, 0, 0, 0, 0, 0, 0, 0, 0, 0, 0, 0, 0, 0, 0, 0, 0, 0, 0, 0, 0, 0, 0, 0, 0, 0, 0, 0, 0, 0, 0, 0, 0, 0, 0, 0, 0, 0, 0, 0, 0, 0, 0, 0, 0, 0, 0, 0, 0, 0, 0, 0, 0, 0, 0, 0, 0, 0, 0, 0, 0, 0, 0, 0, 0, 0, 0, 0, 0, 0, 0, 0, 0, 0, 0, 0, 0, 0, 0, 0, 0, 0, 0, 0, 0, 0, 0, 0, 0, 0, 0, 0, 0, 0, 0, 0, 0, 0, 0, 0, 0, 0, 0, 0, 0, 0, 0, 0, 0, 0, 0, 0, 0, 0, 0, 0, 0, 0, 0, 0, 0, 0, 0, 0, 0, 0, 0, 0, 0, 0, 0, 0, 0, 0, 0, 0, 0, 0, 0, 0, 0, 0, 0, 0, 0, 0, 0, 0, 0, 0, 0, 0, 0, 0, 0, 0, 0, 0, 0, 0, 0, 0, 0, 0, 0, 0, 0, 0, 0, 0, 0, 0, 0, 0, 0, 0, 0, 0, 0, 0, 0, 0, 0, 0, 0, 0, 0, 0, 0, (-100), 100, (-100), 100, (-100), 100, (-100), 100, 0, 0, 0, 0, 0, 0, 0, 0, 0, 0, 0, 0, 0, 0, 0, 0, 0, 0, 0, 0, 0, 0, 0, 0, 0, 0, 0, 0, 0, 0, 0, 0, 0, 0, 0, 0, 0, 0, 0, 0, 0, 0, 0, 0, 0, 0, 0, 0, 0, 0, 0, 0, 0, 0, 0, 0, 0, 0, 0, 0, 0, 0, 0, 0, 0, 0, 0, 0, 0, 0, 0, 0, 0, 0, 0, 0, 0, 0, 0, 0, 0, 0, 0, 0, 0, 0, 0, 0, 0, 0, 0, 0, 0, 0, 0, 0, 0, 0, 0, 0, 0, 0, 0, 0, 0, 0, 0, 0, 0, 0, 0, 0, 0, 0, 0, 0, 0, 0].set 690 x2).set 691 x3)))), 0, 0)) rfl ?_
                  exact Ex.ret rfl rfl) (by decide)
              | k7 + 6, h => exact absurd h (by omega)
