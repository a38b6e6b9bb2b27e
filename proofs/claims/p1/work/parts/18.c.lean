/-! ===== both answer alike: begin ===== -/
set_option maxHeartbeats 8000000 in
set_option maxRecDepth 100000 in
theorem both_begin (x1 x2 : Int32) : BothI 100 207 [.int x1, .int x2] := by
  by_cases h1 : (x1 : Int32) < 0
  ·
    exact mkI (x := (-2)) (c1 := 0) (s1 := 0) (c2 := 0) (s2 := 0) (by
      refine Rn.of (me := me100) rfl ⟨Nat.le_of_ble_eq_true rfl, rfl⟩ rfl ?_
      refine Ex.steps 3 (S' := (5, [.int 9999, .int 0, .int x1], [(0, .ref 0), (1, .int x1), (2, .int x2)], hX, 0, 0)) rfl ?_
      refine Ex.call0 (as := [.int x1, .int 0, .int 9999]) (rest := []) (r := (some (.int 0))) (c1 := 0) (s1 := 0) rfl rfl rfl rfl (by
        refine Rn.of (me := me12) rfl ⟨Nat.le_of_ble_eq_true rfl, rfl⟩ rfl ?_
        refine Ex.steps 2 (S' := (2, [.int 0, .int x1], [(0, .int x1), (1, .int 0), (2, .int 9999)], [], 0, 0)) rfl ?_
        refine Ex.icmp rfl (cT_lt h1) rfl ?_
        refine Ex.steps 1 (S' := (15, [.int 0], [(0, .int x1), (1, .int 0), (2, .int 9999)], [], 0, 0)) rfl ?_
        exact Ex.ret rfl rfl) ?_
      refine Ex.steps 2 (S' := (13, [.int (-2)], [(0, .ref 0), (1, .int x1), (2, .int x2)], hX, 0, 0)) rfl ?_
      exact Ex.ret rfl rfl) (by
      refine Rn.of (me := me207) rfl ⟨Nat.le_of_ble_eq_true rfl, rfl⟩ rfl ?_
      refine Ex.steps 3 (S' := (5, [.int 9999, .int 0, .int x1], [(0, .ref 0), (1, .int x1), (2, .int x2)], hM, 0, 0)) rfl ?_
      refine Ex.call0 (as := [.int x1, .int 0, .int 9999]) (rest := []) (r := (some (.int 0))) (c1 := 0) (s1 := 0) rfl rfl rfl rfl (by
        refine Rn.of (me := me145) rfl ⟨Nat.le_of_ble_eq_true rfl, rfl⟩ rfl ?_
        refine Ex.steps 2 (S' := (2, [.int 0, .int x1], [(0, .int x1), (1, .int 0), (2, .int 9999)], [], 0, 0)) rfl ?_
        refine Ex.icmp rfl (cT_lt h1) rfl ?_
        refine Ex.steps 1 (S' := (15, [.int 0], [(0, .int x1), (1, .int 0), (2, .int 9999)], [], 0, 0)) rfl ?_
        exact Ex.ret rfl rfl) ?_
      refine Ex.steps 2 (S' := (13, [.int (-2)], [(0, .ref 0), (1, .int x1), (2, .int x2)], hM, 0, 0)) rfl ?_
      exact Ex.ret rfl rfl) (by decide)
  ·
    by_cases h2 : (9999 : Int32) < x1
    ·
      exact mkI (x := (-2)) (c1 := 0) (s1 := 0) (c2 := 0) (s2 := 0) (by
        refine Rn.of (me := me100) rfl ⟨Nat.le_of_ble_eq_true rfl, rfl⟩ rfl ?_
        refine Ex.steps 3 (S' := (5, [.int 9999, .int 0, .int x1], [(0, .ref 0), (1, .int x1), (2, .int x2)], hX, 0, 0)) rfl ?_
        refine Ex.call0 (as := [.int x1, .int 0, .int 9999]) (rest := []) (r := (some (.int 0))) (c1 := 0) (s1 := 0) rfl rfl rfl rfl (by
          refine Rn.of (me := me12) rfl ⟨Nat.le_of_ble_eq_true rfl, rfl⟩ rfl ?_
          refine Ex.steps 2 (S' := (2, [.int 0, .int x1], [(0, .int x1), (1, .int 0), (2, .int 9999)], [], 0, 0)) rfl ?_
          refine Ex.icmp rfl (cF_lt h1) rfl ?_
          refine Ex.steps 2 (S' := (7, [.int 9999, .int x1], [(0, .int x1), (1, .int 0), (2, .int 9999)], [], 0, 0)) rfl ?_
          refine Ex.icmp rfl (cT_gt h2) rfl ?_
          refine Ex.steps 1 (S' := (15, [.int 0], [(0, .int x1), (1, .int 0), (2, .int 9999)], [], 0, 0)) rfl ?_
          exact Ex.ret rfl rfl) ?_
        refine Ex.steps 2 (S' := (13, [.int (-2)], [(0, .ref 0), (1, .int x1), (2, .int x2)], hX, 0, 0)) rfl ?_
        exact Ex.ret rfl rfl) (by
        refine Rn.of (me := me207) rfl ⟨Nat.le_of_ble_eq_true rfl, rfl⟩ rfl ?_
        refine Ex.steps 3 (S' := (5, [.int 9999, .int 0, .int x1], [(0, .ref 0), (1, .int x1), (2, .int x2)], hM, 0, 0)) rfl ?_
        refine Ex.call0 (as := [.int x1, .int 0, .int 9999]) (rest := []) (r := (some (.int 0))) (c1 := 0) (s1 := 0) rfl rfl rfl rfl (by
          refine Rn.of (me := me145) rfl ⟨Nat.le_of_ble_eq_true rfl, rfl⟩ rfl ?_
          refine Ex.steps 2 (S' := (2, [.int 0, .int x1], [(0, .int x1), (1, .int 0), (2, .int 9999)], [], 0, 0)) rfl ?_
          refine Ex.icmp rfl (cF_lt h1) rfl ?_
          refine Ex.steps 2 (S' := (7, [.int 9999, .int x1], [(0, .int x1), (1, .int 0), (2, .int 9999)], [], 0, 0)) rfl ?_
          refine Ex.icmp rfl (cT_gt h2) rfl ?_
          refine Ex.steps 1 (S' := (15, [.int 0], [(0, .int x1), (1, .int 0), (2, .int 9999)], [], 0, 0)) rfl ?_
          exact Ex.ret rfl rfl) ?_
        refine Ex.steps 2 (S' := (13, [.int (-2)], [(0, .ref 0), (1, .int x1), (2, .int x2)], hM, 0, 0)) rfl ?_
        exact Ex.ret rfl rfl) (by decide)
    ·
      by_cases h3 : (x2 : Int32) = 527
      ·
        exact mkI (x := 1) (c1 := 0) (s1 := 0) (c2 := 0) (s2 := 0) (by
          refine Rn.of (me := me100) rfl ⟨Nat.le_of_ble_eq_true rfl, rfl⟩ rfl ?_
          refine Ex.steps 3 (S' := (5, [.int 9999, .int 0, .int x1], [(0, .ref 0), (1, .int x1), (2, .int x2)], hX, 0, 0)) rfl ?_
          refine Ex.call0 (as := [.int x1, .int 0, .int 9999]) (rest := []) (r := (some (.int 1))) (c1 := 0) (s1 := 0) rfl rfl rfl rfl (by
            refine Rn.of (me := me12) rfl ⟨Nat.le_of_ble_eq_true rfl, rfl⟩ rfl ?_
            refine Ex.steps 2 (S' := (2, [.int 0, .int x1], [(0, .int x1), (1, .int 0), (2, .int 9999)], [], 0, 0)) rfl ?_
            refine Ex.icmp rfl (cF_lt h1) rfl ?_
            refine Ex.steps 2 (S' := (7, [.int 9999, .int x1], [(0, .int x1), (1, .int 0), (2, .int 9999)], [], 0, 0)) rfl ?_
            refine Ex.icmp rfl (cF_gt h2) rfl ?_
            refine Ex.steps 2 (S' := (15, [.int 1], [(0, .int x1), (1, .int 0), (2, .int 9999)], [], 0, 0)) rfl ?_
            exact Ex.ret rfl rfl) ?_
          refine Ex.steps 5 (S' := (22, [.int 0, .int x1], [(0, .ref 0), (1, .int x1), (2, .int x2)], hX, 0, 0)) rfl ?_
          refine Ex.icmp rfl (cF_lt h1) rfl ?_
          refine Ex.steps 10 (S' := (43, [.ref 8, .int x2], [(0, .ref 0), (1, .int x1), (2, .int x2)], hX, 0, 0)) rfl ?_
          refine Ex.callS (as := [.ref 8]) (rest := [.int x2]) (I := [8, 9, 10, 11, 12]) (as' := [.ref 0]) (h := [.inl (2, [.int 0, .ref 1, .ref 2, .ref 3, .ref 4]), .inr (0, .inl (List.replicate 60 0)), .inr (0, .inl (List.replicate 60 0)), .inr (0, .inl (List.replicate 60 0)), .inr (0, .inl (List.replicate 60 0))]) (h1 := [.inl (2, [.int 0, .ref 1, .ref 2, .ref 3, .ref 4]), .inr (0, .inl (List.replicate 60 0)), .inr (0, .inl (List.replicate 60 0)), .inr (0, .inl (List.replicate 60 0)), .inr (0, .inl (List.replicate 60 0))]) (r := (some (.int 527))) (c1 := 0) (s1 := 0) (σ2 := (((((hX.set 8 (.inl (2, [.int 0, .ref 9, .ref 10, .ref 11, .ref 12]))).set 9 (.inr (0, .inl (List.replicate 60 0)))).set 10 (.inr (0, .inl (List.replicate 60 0)))).set 11 (.inr (0, .inl (List.replicate 60 0)))).set 12 (.inr (0, .inl (List.replicate 60 0))))) rfl rfl rfl rfl rfl rfl rfl (by
            refine Rn.of (me := me99) rfl ⟨Nat.le_of_ble_eq_true rfl, rfl⟩ rfl ?_
            refine Ex.steps 14 (S' := (76, [.int 527], [(2, .int 0), (1, .int 17), (0, .ref 0)], [.inl (2, [.int 0, .ref 1, .ref 2, .ref 3, .ref 4]), .inr (0, .inl (List.replicate 60 0)), .inr (0, .inl (List.replicate 60 0)), .inr (0, .inl (List.replicate 60 0)), .inr (0, .inl (List.replicate 60 0))], 0, 0)) rfl ?_
            exact Ex.ret rfl rfl) rfl rfl rfl ?_
          refine Ex.icmp rfl (cT_eq h3) rfl ?_
          refine Ex.steps 5 (S' := (61, [.int 1], [(0, .ref 0), (1, .int x1), (2, .int x2)], ((((((hX.set 8 (.inl (2, [.int 0, .ref 9, .ref 10, .ref 11, .ref 12]))).set 9 (.inr (0, .inl (List.replicate 60 0)))).set 10 (.inr (0, .inl (List.replicate 60 0)))).set 11 (.inr (0, .inl (List.replicate 60 0)))).set 12 (.inr (0, .inl (List.replicate 60 0)))).set 41 (.inl (7, [.ref 42, .int 7, .ref 51, .ref 55, .ref 56, .int 0, .int 0, .int 0, .int 0, .int 0, .int 0, .int 0, .int 0, .int 0, .int 0, .int 0, .int x1]))), 0, 0)) rfl ?_
          exact Ex.ret rfl rfl) (by
          refine Rn.of (me := me207) rfl ⟨Nat.le_of_ble_eq_true rfl, rfl⟩ rfl ?_
          refine Ex.steps 3 (S' := (5, [.int 9999, .int 0, .int x1], [(0, .ref 0), (1, .int x1), (2, .int x2)], hM, 0, 0)) rfl ?_
          refine Ex.call0 (as := [.int x1, .int 0, .int 9999]) (rest := []) (r := (some (.int 1))) (c1 := 0) (s1 := 0) rfl rfl rfl rfl (by
            refine Rn.of (me := me145) rfl ⟨Nat.le_of_ble_eq_true rfl, rfl⟩ rfl ?_
            refine Ex.steps 2 (S' := (2, [.int 0, .int x1], [(0, .int x1), (1, .int 0), (2, .int 9999)], [], 0, 0)) rfl ?_
            refine Ex.icmp rfl (cF_lt h1) rfl ?_
            refine Ex.steps 2 (S' := (7, [.int 9999, .int x1], [(0, .int x1), (1, .int 0), (2, .int 9999)], [], 0, 0)) rfl ?_
            refine Ex.icmp rfl (cF_gt h2) rfl ?_
            refine Ex.steps 2 (S' := (15, [.int 1], [(0, .int x1), (1, .int 0), (2, .int 9999)], [], 0, 0)) rfl ?_
            exact Ex.ret rfl rfl) ?_
          refine Ex.steps 6 (S' := (22, [.int 0, .int x1], [(0, .ref 0), (1, .int x1), (2, .int x2)], hM, 0, 0)) rfl ?_
          refine Ex.icmp rfl (cF_lt h1) rfl ?_
          refine Ex.steps 3 (S' := (28, [.int 1, .ref 0, .int x2], [(0, .ref 0), (1, .int x1), (2, .int x2)], hM, 0, 0)) rfl ?_
          refine Ex.callX (as := [.int 1]) (rest := [.int x2]) (r := (some (.int 527))) (c1 := 0) (s1 := 0) rfl rfl rfl rfl xM1 xM2 rfl xM3 xM4 rfl okM (by
            refine Rn.of (me := me206) rfl ⟨Nat.le_of_ble_eq_true rfl, rfl⟩ rfl ?_
            refine Ex.steps 25 (S' := (80, [.int 527], [(5, .int 0), (4, .int 17), (3, .int 440), (2, .int 0), (0, .ref 0), (1, .int 1)], hM, 0, 0)) rfl ?_
            exact Ex.ret rfl rfl) ?_
          refine Ex.icmp rfl (cT_eq h3) rfl ?_
          refine Ex.steps 6 (S' := (46, [.int 1], [(0, .ref 0), (1, .int x1), (2, .int x2)], (hM.set 1 (.inr (0, .inl ([3, 0, 0, 0, 0, 0, 0, 0, 3, 5, 0, 0, 0, 0, 0, 0, 0, 100, 0, 0, (-1), 0, 0, 0, 0, 0, 0, 0, 0, 0, 0, 0, 0, 0, 0, 0, 0, 0, 0, 0, 0, 0, 1, 0, 0, 0, 0, 0, 0, 0, 0, 0, 0, 0, 0, 0, 0, 0, 0, 0, 0, 0, 0, 0, 0, 0, 0, 0, 0, 0, 0, 0, 0, 0, 0, 0, 0, 0, 0, 0, 0, 0, 1, 0, 0, 0, 0, 0, 0, 0, 0, 0, 0, 0, 0, 0, 0, 0, 0, 0, 0, 0, 0, 0, 0, 0, 0, 0, 0, 0, 0, 0, 0, 0, 0, 0, 0, 0, 0, 0, 0, 0, 1, 0, 0, 0, 0, 0, 0, 0, 0, 0, 0, 0, 0, 0, 0, 0, 0, 0, 0, 0, 0, 0, 0, 0, 0, 0, 0, 0, 0, 0, 0, 0, 0, 0, 0, 0, 0, 0, 0, 0, 1, 0, 0, 0, 0, 0, 0, 0, 0, 0, 0, 0, 0, 0, 0, 0, 0, 0, 0, 0, 0, 0, 0, 0, 0, 0, 0, 0, 0, 0, 0, 0, 0, 0, 0, 0, 0, 0, 0, 0, 0, 0, 0, 0, 0, 0, 0, 0, 0, 0, 0, 0, 0, 0, 0, 0, 0, 0, 0, 0, 0, 0, 0, 0, 0, 0, 0, 0, 0, 0, 0, 0, 0, 0, 0, 0, 0, 0, 0, 0, 0, 0, 0, 0, 0, 0, 0, 0, 0, 0, 0, 0, 0, 0, 0, 0, 0, 0, 0, 0, 0, 0, 0, 0, 0, 0, 0, 0, 0, 0, 0, 0, 0, 0, 0, 0, 0, 0, 0, 0, 0, 0, 0, 0, 0, 0, 0, 0, 0, 0, 0, 0, 0, 0, 0, 0, 0, 0, 0, 0, 0, 0, 0, 0, 0, 0, 0, 0, 0, 0, 0, 0, 0, 0, 0, 0, 0, 0, 0, 0, 0, 0, 0, 0, 0, 0, 0, 0, 0, 0, 0, 0, 0, 0, 0, 0, 0, 0, 0, 0, 0, 0, 0, 0, 0, 0, 0, 0, 0, 0, 0, 0, 0, 0, 0, 0, 0, 0, 0, 0, 0, 0, 0, 0, 0, 0, 0, 0, 0, 0, 0, 0, 0, 0, 0, 0, 0, 0, 0, 0, 0, 0, 0, 0, 0, 0, 0, 0, 0, 0, 0, 0, 0, 0, 0, 0, 0, 0, 0, 0, 0, 0, 0, 0, 0, 0, 0, 0, 0, 0, 0, 0, 0, 0, 0, 0, 0, 0, 0, 0, 0, 0, 0, 0, 0, 0, 0, 0, 0, 0, 0, 0, 0, 0, 0, 0, 0, 0, 0, 0, 0, 0, 0, 0, 0, 0, 0, 0, 0, 0, 0, 0, 0, 0, 0, 0, 0, 0, 0, 0, 0, 0, 0, 0, 0, 0, 0, 0, 0, 0, 0, 0, 0, 0, 0, 0, 0, 0, 0, 0, 0, 0, 0, 0, 0, 0, 0, 0, 0, 0, 0, 0, 0, 0, 0, 0, 0, 0, 0, 0, 0, 0, 0, 0, 0, 0, 0, 0, 0, 0, 0, 0, 0, 0, 0, 0, 0, 0, 0, 0, 0, 0, 0, 0, 0, 0, 0, 0, 0, 0, 0, 0, 0, 0, 0, 0, 0, 0, 0, 0, 0, 0, 0, 0, 0, 0, 0, 0, 0, 0, 0, 0, 0, 0, 0, 0, 0, 0, 0, 0, 0, 0, 0, 0, 0, 0, 0, 0, 0, 0, 0, 0, 0, 0, 0, 0, 0, 0, 0, 0, 0, 0, 0, 0, 0, 0, 0, 0, 0, 0, 0, 0, 0, 0, 0, 0, 0, 0, 0, 0, 0, 0, 0, 0, 0, 0, 0, 0, 0, 0, 0, 0, 0, 0, 0, 0, 0, 0, 0, 0, 0, 0, 0, 0, 0, 0, 0, 0, 0, 0, 0, 0, 0, 0, 0, 0, 0, 0, 0, 0, 0, 0, 0, 0, 0, 0, 0, 0, 0, 0, 0, 0, 0, 0, 0, 0, 0, 0, 0, 0, 0, 0, 0, 0, 0, 0, 0, 0, 0, 0, 0, 0, 0, 0, 0, 0, 0, 0, 0, 0, 0, 0, 0, 0, 0, 0, 0, 0, 0, 0, 0, 0, 0, 0, 0, 0, 0, 0, 0, 0, 0, 0, 0, 0, 0, 0, 0, 0, 0, 0, 0, 0, 0, 0, 0, 0, 0, 0, 0, 0, 0, 0, 0, 0, 0, 0, 0, 0, 0, 0, 0, 0, 0, 0, 0, 0, 0, 0, 0, 0, 0, 0, 0, 0, 0, 0, 0, 0, 0, 0, 0, 0, 0, 0, 0, 0, 0, 0, 0, 0, 0, 0, 0, 0, 0, 0, 0, 0, 0, 0, 0, 0, 0, 0, 0, 0, 0, 0, 0, 0, 0, 0, (-100), 100, (-100), 100, (-100), 100, (-100), 100, 0, 0, 0, 0, 0, 0, 0, 0, 0, 0, 0, 0, 0, 0, 0, 0, 0, 0, 0, 0, 0, 0, 0, 0, 0, 0, 0, 0, 0, 0, 0, 0, 0, 0, 0, 0, 0, 0, 0, 0, 0, 0, 0, 0, 0, 0, 0, 0, 0, 0, 0, 0, 0, 0, 0, 0, 0, 0, 0, 0, 0, 0, 0, 0, 0, 0, 0, 0, 0, 0, 0, 0, 0, 0, 0, 0, 0, 0, 0, 0, 0, 0, 0, 0, 0, 0, 0, 0, 0, 0, 0, 0, 0, 0, 0, 0, 0, 0, 0, 0, 0, 0, 0, 0, 0, 0, 0, 0, 0, 0, 0, 0, 0, 0, 0, 0, 0, 0].set 20 x1)))), 0, 0)) rfl ?_
          exact Ex.ret rfl rfl) (by decide)
      ·
        exact mkI (x := (-3)) (c1 := 0) (s1 := 0) (c2 := 0) (s2 := 0) (by
          refine Rn.of (me := me100) rfl ⟨Nat.le_of_ble_eq_true rfl, rfl⟩ rfl ?_
          refine Ex.steps 3 (S' := (5, [.int 9999, .int 0, .int x1], [(0, .ref 0), (1, .int x1), (2, .int x2)], hX, 0, 0)) rfl ?_
          refine Ex.call0 (as := [.int x1, .int 0, .int 9999]) (rest := []) (r := (some (.int 1))) (c1 := 0) (s1 := 0) rfl rfl rfl rfl (by
            refine Rn.of (me := me12) rfl ⟨Nat.le_of_ble_eq_true rfl, rfl⟩ rfl ?_
            refine Ex.steps 2 (S' := (2, [.int 0, .int x1], [(0, .int x1), (1, .int 0), (2, .int 9999)], [], 0, 0)) rfl ?_
            refine Ex.icmp rfl (cF_lt h1) rfl ?_
            refine Ex.steps 2 (S' := (7, [.int 9999, .int x1], [(0, .int x1), (1, .int 0), (2, .int 9999)], [], 0, 0)) rfl ?_
            refine Ex.icmp rfl (cF_gt h2) rfl ?_
            refine Ex.steps 2 (S' := (15, [.int 1], [(0, .int x1), (1, .int 0), (2, .int 9999)], [], 0, 0)) rfl ?_
            exact Ex.ret rfl rfl) ?_
          refine Ex.steps 5 (S' := (22, [.int 0, .int x1], [(0, .ref 0), (1, .int x1), (2, .int x2)], hX, 0, 0)) rfl ?_
          refine Ex.icmp rfl (cF_lt h1) rfl ?_
          refine Ex.steps 10 (S' := (43, [.ref 8, .int x2], [(0, .ref 0), (1, .int x1), (2, .int x2)], hX, 0, 0)) rfl ?_
          refine Ex.callS (as := [.ref 8]) (rest := [.int x2]) (I := [8, 9, 10, 11, 12]) (as' := [.ref 0]) (h := [.inl (2, [.int 0, .ref 1, .ref 2, .ref 3, .ref 4]), .inr (0, .inl (List.replicate 60 0)), .inr (0, .inl (List.replicate 60 0)), .inr (0, .inl (List.replicate 60 0)), .inr (0, .inl (List.replicate 60 0))]) (h1 := [.inl (2, [.int 0, .ref 1, .ref 2, .ref 3, .ref 4]), .inr (0, .inl (List.replicate 60 0)), .inr (0, .inl (List.replicate 60 0)), .inr (0, .inl (List.replicate 60 0)), .inr (0, .inl (List.replicate 60 0))]) (r := (some (.int 527))) (c1 := 0) (s1 := 0) (σ2 := (((((hX.set 8 (.inl (2, [.int 0, .ref 9, .ref 10, .ref 11, .ref 12]))).set 9 (.inr (0, .inl (List.replicate 60 0)))).set 10 (.inr (0, .inl (List.replicate 60 0)))).set 11 (.inr (0, .inl (List.replicate 60 0)))).set 12 (.inr (0, .inl (List.replicate 60 0))))) rfl rfl rfl rfl rfl rfl rfl (by
            refine Rn.of (me := me99) rfl ⟨Nat.le_of_ble_eq_true rfl, rfl⟩ rfl ?_
            refine Ex.steps 14 (S' := (76, [.int 527], [(2, .int 0), (1, .int 17), (0, .ref 0)], [.inl (2, [.int 0, .ref 1, .ref 2, .ref 3, .ref 4]), .inr (0, .inl (List.replicate 60 0)), .inr (0, .inl (List.replicate 60 0)), .inr (0, .inl (List.replicate 60 0)), .inr (0, .inl (List.replicate 60 0))], 0, 0)) rfl ?_
            exact Ex.ret rfl rfl) rfl rfl rfl ?_
          refine Ex.icmp rfl (cF_eq h3) rfl ?_
          refine Ex.steps 1 (S' := (51, [.int (-3)], [(0, .ref 0), (1, .int x1), (2, .int x2)], (((((hX.set 8 (.inl (2, [.int 0, .ref 9, .ref 10, .ref 11, .ref 12]))).set 9 (.inr (0, .inl (List.replicate 60 0)))).set 10 (.inr (0, .inl (List.replicate 60 0)))).set 11 (.inr (0, .inl (List.replicate 60 0)))).set 12 (.inr (0, .inl (List.replicate 60 0)))), 0, 0)) rfl ?_
          exact Ex.ret rfl rfl) (by
          refine Rn.of (me := me207) rfl ⟨Nat.le_of_ble_eq_true rfl, rfl⟩ rfl ?_
          refine Ex.steps 3 (S' := (5, [.int 9999, .int 0, .int x1], [(0, .ref 0), (1, .int x1), (2, .int x2)], hM, 0, 0)) rfl ?_
          refine Ex.call0 (as := [.int x1, .int 0, .int 9999]) (rest := []) (r := (some (.int 1))) (c1 := 0) (s1 := 0) rfl rfl rfl rfl (by
            refine Rn.of (me := me145) rfl ⟨Nat.le_of_ble_eq_true rfl, rfl⟩ rfl ?_
            refine Ex.steps 2 (S' := (2, [.int 0, .int x1], [(0, .int x1), (1, .int 0), (2, .int 9999)], [], 0, 0)) rfl ?_
            refine Ex.icmp rfl (cF_lt h1) rfl ?_
            refine Ex.steps 2 (S' := (7, [.int 9999, .int x1], [(0, .int x1), (1, .int 0), (2, .int 9999)], [], 0, 0)) rfl ?_
            refine Ex.icmp rfl (cF_gt h2) rfl ?_
            refine Ex.steps 2 (S' := (15, [.int 1], [(0, .int x1), (1, .int 0), (2, .int 9999)], [], 0, 0)) rfl ?_
            exact Ex.ret rfl rfl) ?_
          refine Ex.steps 6 (S' := (22, [.int 0, .int x1], [(0, .ref 0), (1, .int x1), (2, .int x2)], hM, 0, 0)) rfl ?_
          refine Ex.icmp rfl (cF_lt h1) rfl ?_
          refine Ex.steps 3 (S' := (28, [.int 1, .ref 0, .int x2], [(0, .ref 0), (1, .int x1), (2, .int x2)], hM, 0, 0)) rfl ?_
          refine Ex.callX (as := [.int 1]) (rest := [.int x2]) (r := (some (.int 527))) (c1 := 0) (s1 := 0) rfl rfl rfl rfl xM1 xM2 rfl xM3 xM4 rfl okM (by
            refine Rn.of (me := me206) rfl ⟨Nat.le_of_ble_eq_true rfl, rfl⟩ rfl ?_
            refine Ex.steps 25 (S' := (80, [.int 527], [(5, .int 0), (4, .int 17), (3, .int 440), (2, .int 0), (0, .ref 0), (1, .int 1)], hM, 0, 0)) rfl ?_
            exact Ex.ret rfl rfl) ?_
          refine Ex.icmp rfl (cF_eq h3) rfl ?_
          refine Ex.steps 1 (S' := (36, [.int (-3)], [(0, .ref 0), (1, .int x1), (2, .int x2)], hM, 0, 0)) rfl ?_
          exact Ex.ret rfl rfl) (by decide)
