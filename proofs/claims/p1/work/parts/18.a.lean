/-! ===== both answer alike: aside, body, air, unslot, erase, fault, leave, unbox, sensed ===== -/
set_option maxHeartbeats 8000000 in
set_option maxRecDepth 100000 in
theorem both_unslot : BothI 23 151 [] := by
  obtain ⟨hA, rA⟩ := closed (F := 62) (mi := 23) (as := [.ref 0]) (σ := hX) (v := .int 0) (c := 0) (s := 0) (by decide +kernel)
  obtain ⟨hB, rB⟩ := closed (F := 62) (mi := 151) (as := [.ref 0]) (σ := hM) (v := .int 0) (c := 0) (s := 0) (by decide +kernel)
  exact mkI rA rB (by decide)
set_option maxHeartbeats 8000000 in
set_option maxRecDepth 100000 in
theorem both_aside (x1 x2 : Int32) : BothI 25 153 [.int x1, .int x2] := by
  by_cases h1 : (x1 : Int32) < 1
  ·
    exact mkI (x := (-2)) (c1 := 0) (s1 := 0) (c2 := 0) (s2 := 0) (by
      refine Rn.of (me := me25) rfl ⟨Nat.le_of_ble_eq_true rfl, rfl⟩ rfl ?_
      refine Ex.steps 3 (S' := (4, [.int 20, .int 1, .int x1], [(0, .ref 0), (1, .int x1), (2, .int x2)], hX, 0, 0)) rfl ?_
      refine Ex.call0 (as := [.int x1, .int 1, .int 20]) (rest := []) (r := (some (.int 0))) (c1 := 0) (s1 := 0) rfl rfl rfl rfl (by
        refine Rn.of (me := me12) rfl ⟨Nat.le_of_ble_eq_true rfl, rfl⟩ rfl ?_
        refine Ex.steps 2 (S' := (2, [.int 1, .int x1], [(0, .int x1), (1, .int 1), (2, .int 20)], [], 0, 0)) rfl ?_
        refine Ex.icmp rfl (cT_lt h1) rfl ?_
        refine Ex.steps 1 (S' := (15, [.int 0], [(0, .int x1), (1, .int 1), (2, .int 20)], [], 0, 0)) rfl ?_
        exact Ex.ret rfl rfl) ?_
      refine Ex.steps 2 (S' := (22, [.int (-2)], [(0, .ref 0), (1, .int x1), (2, .int x2)], hX, 0, 0)) rfl ?_
      exact Ex.ret rfl rfl) (by
      refine Rn.of (me := me153) rfl ⟨Nat.le_of_ble_eq_true rfl, rfl⟩ rfl ?_
      refine Ex.steps 3 (S' := (4, [.int 20, .int 1, .int x1], [(0, .ref 0), (1, .int x1), (2, .int x2)], hM, 0, 0)) rfl ?_
      refine Ex.call0 (as := [.int x1, .int 1, .int 20]) (rest := []) (r := (some (.int 0))) (c1 := 0) (s1 := 0) rfl rfl rfl rfl (by
        refine Rn.of (me := me145) rfl ⟨Nat.le_of_ble_eq_true rfl, rfl⟩ rfl ?_
        refine Ex.steps 2 (S' := (2, [.int 1, .int x1], [(0, .int x1), (1, .int 1), (2, .int 20)], [], 0, 0)) rfl ?_
        refine Ex.icmp rfl (cT_lt h1) rfl ?_
        refine Ex.steps 1 (S' := (15, [.int 0], [(0, .int x1), (1, .int 1), (2, .int 20)], [], 0, 0)) rfl ?_
        exact Ex.ret rfl rfl) ?_
      refine Ex.steps 2 (S' := (22, [.int (-2)], [(0, .ref 0), (1, .int x1), (2, .int x2)], hM, 0, 0)) rfl ?_
      exact Ex.ret rfl rfl) (by decide)
  ·
    by_cases h2 : (20 : Int32) < x1
    ·
      exact mkI (x := (-2)) (c1 := 0) (s1 := 0) (c2 := 0) (s2 := 0) (by
        refine Rn.of (me := me25) rfl ⟨Nat.le_of_ble_eq_true rfl, rfl⟩ rfl ?_
        refine Ex.steps 3 (S' := (4, [.int 20, .int 1, .int x1], [(0, .ref 0), (1, .int x1), (2, .int x2)], hX, 0, 0)) rfl ?_
        refine Ex.call0 (as := [.int x1, .int 1, .int 20]) (rest := []) (r := (some (.int 0))) (c1 := 0) (s1 := 0) rfl rfl rfl rfl (by
          refine Rn.of (me := me12) rfl ⟨Nat.le_of_ble_eq_true rfl, rfl⟩ rfl ?_
          refine Ex.steps 2 (S' := (2, [.int 1, .int x1], [(0, .int x1), (1, .int 1), (2, .int 20)], [], 0, 0)) rfl ?_
          refine Ex.icmp rfl (cF_lt h1) rfl ?_
          refine Ex.steps 2 (S' := (7, [.int 20, .int x1], [(0, .int x1), (1, .int 1), (2, .int 20)], [], 0, 0)) rfl ?_
          refine Ex.icmp rfl (cT_gt h2) rfl ?_
          refine Ex.steps 1 (S' := (15, [.int 0], [(0, .int x1), (1, .int 1), (2, .int 20)], [], 0, 0)) rfl ?_
          exact Ex.ret rfl rfl) ?_
        refine Ex.steps 2 (S' := (22, [.int (-2)], [(0, .ref 0), (1, .int x1), (2, .int x2)], hX, 0, 0)) rfl ?_
        exact Ex.ret rfl rfl) (by
        refine Rn.of (me := me153) rfl ⟨Nat.le_of_ble_eq_true rfl, rfl⟩ rfl ?_
        refine Ex.steps 3 (S' := (4, [.int 20, .int 1, .int x1], [(0, .ref 0), (1, .int x1), (2, .int x2)], hM, 0, 0)) rfl ?_
        refine Ex.call0 (as := [.int x1, .int 1, .int 20]) (rest := []) (r := (some (.int 0))) (c1 := 0) (s1 := 0) rfl rfl rfl rfl (by
          refine Rn.of (me := me145) rfl ⟨Nat.le_of_ble_eq_true rfl, rfl⟩ rfl ?_
          refine Ex.steps 2 (S' := (2, [.int 1, .int x1], [(0, .int x1), (1, .int 1), (2, .int 20)], [], 0, 0)) rfl ?_
          refine Ex.icmp rfl (cF_lt h1) rfl ?_
          refine Ex.steps 2 (S' := (7, [.int 20, .int x1], [(0, .int x1), (1, .int 1), (2, .int 20)], [], 0, 0)) rfl ?_
          refine Ex.icmp rfl (cT_gt h2) rfl ?_
          refine Ex.steps 1 (S' := (15, [.int 0], [(0, .int x1), (1, .int 1), (2, .int 20)], [], 0, 0)) rfl ?_
          exact Ex.ret rfl rfl) ?_
        refine Ex.steps 2 (S' := (22, [.int (-2)], [(0, .ref 0), (1, .int x1), (2, .int x2)], hM, 0, 0)) rfl ?_
        exact Ex.ret rfl rfl) (by decide)
    ·
      by_cases h3 : (x2 : Int32) < 1
      ·
        exact mkI (x := (-2)) (c1 := 0) (s1 := 0) (c2 := 0) (s2 := 0) (by
          refine Rn.of (me := me25) rfl ⟨Nat.le_of_ble_eq_true rfl, rfl⟩ rfl ?_
          refine Ex.steps 3 (S' := (4, [.int 20, .int 1, .int x1], [(0, .ref 0), (1, .int x1), (2, .int x2)], hX, 0, 0)) rfl ?_
          refine Ex.call0 (as := [.int x1, .int 1, .int 20]) (rest := []) (r := (some (.int 1))) (c1 := 0) (s1 := 0) rfl rfl rfl rfl (by
            refine Rn.of (me := me12) rfl ⟨Nat.le_of_ble_eq_true rfl, rfl⟩ rfl ?_
            refine Ex.steps 2 (S' := (2, [.int 1, .int x1], [(0, .int x1), (1, .int 1), (2, .int 20)], [], 0, 0)) rfl ?_
            refine Ex.icmp rfl (cF_lt h1) rfl ?_
            refine Ex.steps 2 (S' := (7, [.int 20, .int x1], [(0, .int x1), (1, .int 1), (2, .int 20)], [], 0, 0)) rfl ?_
            refine Ex.icmp rfl (cF_gt h2) rfl ?_
            refine Ex.steps 2 (S' := (15, [.int 1], [(0, .int x1), (1, .int 1), (2, .int 20)], [], 0, 0)) rfl ?_
            exact Ex.ret rfl rfl) ?_
          refine Ex.steps 4 (S' := (14, [.int 50, .int 1, .int x2], [(0, .ref 0), (1, .int x1), (2, .int x2)], hX, 0, 0)) rfl ?_
          refine Ex.call0 (as := [.int x2, .int 1, .int 50]) (rest := []) (r := (some (.int 0))) (c1 := 0) (s1 := 0) rfl rfl rfl rfl (by
            refine Rn.of (me := me12) rfl ⟨Nat.le_of_ble_eq_true rfl, rfl⟩ rfl ?_
            refine Ex.steps 2 (S' := (2, [.int 1, .int x2], [(0, .int x2), (1, .int 1), (2, .int 50)], [], 0, 0)) rfl ?_
            refine Ex.icmp rfl (cT_lt h3) rfl ?_
            refine Ex.steps 1 (S' := (15, [.int 0], [(0, .int x2), (1, .int 1), (2, .int 50)], [], 0, 0)) rfl ?_
            exact Ex.ret rfl rfl) ?_
          refine Ex.steps 2 (S' := (22, [.int (-2)], [(0, .ref 0), (1, .int x1), (2, .int x2)], hX, 0, 0)) rfl ?_
          exact Ex.ret rfl rfl) (by
          refine Rn.of (me := me153) rfl ⟨Nat.le_of_ble_eq_true rfl, rfl⟩ rfl ?_
          refine Ex.steps 3 (S' := (4, [.int 20, .int 1, .int x1], [(0, .ref 0), (1, .int x1), (2, .int x2)], hM, 0, 0)) rfl ?_
          refine Ex.call0 (as := [.int x1, .int 1, .int 20]) (rest := []) (r := (some (.int 1))) (c1 := 0) (s1 := 0) rfl rfl rfl rfl (by
            refine Rn.of (me := me145) rfl ⟨Nat.le_of_ble_eq_true rfl, rfl⟩ rfl ?_
            refine Ex.steps 2 (S' := (2, [.int 1, .int x1], [(0, .int x1), (1, .int 1), (2, .int 20)], [], 0, 0)) rfl ?_
            refine Ex.icmp rfl (cF_lt h1) rfl ?_
            refine Ex.steps 2 (S' := (7, [.int 20, .int x1], [(0, .int x1), (1, .int 1), (2, .int 20)], [], 0, 0)) rfl ?_
            refine Ex.icmp rfl (cF_gt h2) rfl ?_
            refine Ex.steps 2 (S' := (15, [.int 1], [(0, .int x1), (1, .int 1), (2, .int 20)], [], 0, 0)) rfl ?_
            exact Ex.ret rfl rfl) ?_
          refine Ex.steps 4 (S' := (14, [.int 50, .int 1, .int x2], [(0, .ref 0), (1, .int x1), (2, .int x2)], hM, 0, 0)) rfl ?_
          refine Ex.call0 (as := [.int x2, .int 1, .int 50]) (rest := []) (r := (some (.int 0))) (c1 := 0) (s1 := 0) rfl rfl rfl rfl (by
            refine Rn.of (me := me145) rfl ⟨Nat.le_of_ble_eq_true rfl, rfl⟩ rfl ?_
            refine Ex.steps 2 (S' := (2, [.int 1, .int x2], [(0, .int x2), (1, .int 1), (2, .int 50)], [], 0, 0)) rfl ?_
            refine Ex.icmp rfl (cT_lt h3) rfl ?_
            refine Ex.steps 1 (S' := (15, [.int 0], [(0, .int x2), (1, .int 1), (2, .int 50)], [], 0, 0)) rfl ?_
            exact Ex.ret rfl rfl) ?_
          refine Ex.steps 2 (S' := (22, [.int (-2)], [(0, .ref 0), (1, .int x1), (2, .int x2)], hM, 0, 0)) rfl ?_
          exact Ex.ret rfl rfl) (by decide)
      ·
        by_cases h4 : (50 : Int32) < x2
        ·
          exact mkI (x := (-2)) (c1 := 0) (s1 := 0) (c2 := 0) (s2 := 0) (by
            refine Rn.of (me := me25) rfl ⟨Nat.le_of_ble_eq_true rfl, rfl⟩ rfl ?_
            refine Ex.steps 3 (S' := (4, [.int 20, .int 1, .int x1], [(0, .ref 0), (1, .int x1), (2, .int x2)], hX, 0, 0)) rfl ?_
            refine Ex.call0 (as := [.int x1, .int 1, .int 20]) (rest := []) (r := (some (.int 1))) (c1 := 0) (s1 := 0) rfl rfl rfl rfl (by
              refine Rn.of (me := me12) rfl ⟨Nat.le_of_ble_eq_true rfl, rfl⟩ rfl ?_
              refine Ex.steps 2 (S' := (2, [.int 1, .int x1], [(0, .int x1), (1, .int 1), (2, .int 20)], [], 0, 0)) rfl ?_
              refine Ex.icmp rfl (cF_lt h1) rfl ?_
              refine Ex.steps 2 (S' := (7, [.int 20, .int x1], [(0, .int x1), (1, .int 1), (2, .int 20)], [], 0, 0)) rfl ?_
              refine Ex.icmp rfl (cF_gt h2) rfl ?_
              refine Ex.steps 2 (S' := (15, [.int 1], [(0, .int x1), (1, .int 1), (2, .int 20)], [], 0, 0)) rfl ?_
              exact Ex.ret rfl rfl) ?_
            refine Ex.steps 4 (S' := (14, [.int 50, .int 1, .int x2], [(0, .ref 0), (1, .int x1), (2, .int x2)], hX, 0, 0)) rfl ?_
            refine Ex.call0 (as := [.int x2, .int 1, .int 50]) (rest := []) (r := (some (.int 0))) (c1 := 0) (s1 := 0) rfl rfl rfl rfl (by
              refine Rn.of (me := me12) rfl ⟨Nat.le_of_ble_eq_true rfl, rfl⟩ rfl ?_
              refine Ex.steps 2 (S' := (2, [.int 1, .int x2], [(0, .int x2), (1, .int 1), (2, .int 50)], [], 0, 0)) rfl ?_
              refine Ex.icmp rfl (cF_lt h3) rfl ?_
              refine Ex.steps 2 (S' := (7, [.int 50, .int x2], [(0, .int x2), (1, .int 1), (2, .int 50)], [], 0, 0)) rfl ?_
              refine Ex.icmp rfl (cT_gt h4) rfl ?_
              refine Ex.steps 1 (S' := (15, [.int 0], [(0, .int x2), (1, .int 1), (2, .int 50)], [], 0, 0)) rfl ?_
              exact Ex.ret rfl rfl) ?_
            refine Ex.steps 2 (S' := (22, [.int (-2)], [(0, .ref 0), (1, .int x1), (2, .int x2)], hX, 0, 0)) rfl ?_
            exact Ex.ret rfl rfl) (by
            refine Rn.of (me := me153) rfl ⟨Nat.le_of_ble_eq_true rfl, rfl⟩ rfl ?_
            refine Ex.steps 3 (S' := (4, [.int 20, .int 1, .int x1], [(0, .ref 0), (1, .int x1), (2, .int x2)], hM, 0, 0)) rfl ?_
            refine Ex.call0 (as := [.int x1, .int 1, .int 20]) (rest := []) (r := (some (.int 1))) (c1 := 0) (s1 := 0) rfl rfl rfl rfl (by
              refine Rn.of (me := me145) rfl ⟨Nat.le_of_ble_eq_true rfl, rfl⟩ rfl ?_
              refine Ex.steps 2 (S' := (2, [.int 1, .int x1], [(0, .int x1), (1, .int 1), (2, .int 20)], [], 0, 0)) rfl ?_
              refine Ex.icmp rfl (cF_lt h1) rfl ?_
              refine Ex.steps 2 (S' := (7, [.int 20, .int x1], [(0, .int x1), (1, .int 1), (2, .int 20)], [], 0, 0)) rfl ?_
              refine Ex.icmp rfl (cF_gt h2) rfl ?_
              refine Ex.steps 2 (S' := (15, [.int 1], [(0, .int x1), (1, .int 1), (2, .int 20)], [], 0, 0)) rfl ?_
              exact Ex.ret rfl rfl) ?_
            refine Ex.steps 4 (S' := (14, [.int 50, .int 1, .int x2], [(0, .ref 0), (1, .int x1), (2, .int x2)], hM, 0, 0)) rfl ?_
            refine Ex.call0 (as := [.int x2, .int 1, .int 50]) (rest := []) (r := (some (.int 0))) (c1 := 0) (s1 := 0) rfl rfl rfl rfl (by
              refine Rn.of (me := me145) rfl ⟨Nat.le_of_ble_eq_true rfl, rfl⟩ rfl ?_
              refine Ex.steps 2 (S' := (2, [.int 1, .int x2], [(0, .int x2), (1, .int 1), (2, .int 50)], [], 0, 0)) rfl ?_
              refine Ex.icmp rfl (cF_lt h3) rfl ?_
              refine Ex.steps 2 (S' := (7, [.int 50, .int x2], [(0, .int x2), (1, .int 1), (2, .int 50)], [], 0, 0)) rfl ?_
              refine Ex.icmp rfl (cT_gt h4) rfl ?_
              refine Ex.steps 1 (S' := (15, [.int 0], [(0, .int x2), (1, .int 1), (2, .int 50)], [], 0, 0)) rfl ?_
              exact Ex.ret rfl rfl) ?_
            refine Ex.steps 2 (S' := (22, [.int (-2)], [(0, .ref 0), (1, .int x1), (2, .int x2)], hM, 0, 0)) rfl ?_
            exact Ex.ret rfl rfl) (by decide)
        ·
          exact mkI (x := 1) (c1 := 0) (s1 := 0) (c2 := 0) (s2 := 0) (by
            refine Rn.of (me := me25) rfl ⟨Nat.le_of_ble_eq_true rfl, rfl⟩ rfl ?_
            refine Ex.steps 3 (S' := (4, [.int 20, .int 1, .int x1], [(0, .ref 0), (1, .int x1), (2, .int x2)], hX, 0, 0)) rfl ?_
            refine Ex.call0 (as := [.int x1, .int 1, .int 20]) (rest := []) (r := (some (.int 1))) (c1 := 0) (s1 := 0) rfl rfl rfl rfl (by
              refine Rn.of (me := me12) rfl ⟨Nat.le_of_ble_eq_true rfl, rfl⟩ rfl ?_
              refine Ex.steps 2 (S' := (2, [.int 1, .int x1], [(0, .int x1), (1, .int 1), (2, .int 20)], [], 0, 0)) rfl ?_
              refine Ex.icmp rfl (cF_lt h1) rfl ?_
              refine Ex.steps 2 (S' := (7, [.int 20, .int x1], [(0, .int x1), (1, .int 1), (2, .int 20)], [], 0, 0)) rfl ?_
              refine Ex.icmp rfl (cF_gt h2) rfl ?_
              refine Ex.steps 2 (S' := (15, [.int 1], [(0, .int x1), (1, .int 1), (2, .int 20)], [], 0, 0)) rfl ?_
              exact Ex.ret rfl rfl) ?_
            refine Ex.steps 4 (S' := (14, [.int 50, .int 1, .int x2], [(0, .ref 0), (1, .int x1), (2, .int x2)], hX, 0, 0)) rfl ?_
            refine Ex.call0 (as := [.int x2, .int 1, .int 50]) (rest := []) (r := (some (.int 1))) (c1 := 0) (s1 := 0) rfl rfl rfl rfl (by
              refine Rn.of (me := me12) rfl ⟨Nat.le_of_ble_eq_true rfl, rfl⟩ rfl ?_
              refine Ex.steps 2 (S' := (2, [.int 1, .int x2], [(0, .int x2), (1, .int 1), (2, .int 50)], [], 0, 0)) rfl ?_
              refine Ex.icmp rfl (cF_lt h3) rfl ?_
              refine Ex.steps 2 (S' := (7, [.int 50, .int x2], [(0, .int x2), (1, .int 1), (2, .int 50)], [], 0, 0)) rfl ?_
              refine Ex.icmp rfl (cF_gt h4) rfl ?_
              refine Ex.steps 2 (S' := (15, [.int 1], [(0, .int x2), (1, .int 1), (2, .int 50)], [], 0, 0)) rfl ?_
              exact Ex.ret rfl rfl) ?_
            refine Ex.steps 10 (S' := (40, [.int 1], [(0, .ref 0), (1, .int x1), (2, .int x2)], ((hX.set 1 (.inl (1, [.int 3, .ref 2, .ref 13, .ref 19, .ref 20, .int x1, .int 5, .ref 21, .int 100, .int 0, .ref 26, .ref 27, .ref 28, .ref 32, .int 0, .ref 38, .ref 39, .ref 40]))).set 1 (.inl (1, [.int 3, .ref 2, .ref 13, .ref 19, .ref 20, .int x1, .int x2, .ref 21, .int 100, .int 0, .ref 26, .ref 27, .ref 28, .ref 32, .int 0, .ref 38, .ref 39, .ref 40]))), 0, 0)) rfl ?_
            exact Ex.ret rfl rfl) (by
            refine Rn.of (me := me153) rfl ⟨Nat.le_of_ble_eq_true rfl, rfl⟩ rfl ?_
            refine Ex.steps 3 (S' := (4, [.int 20, .int 1, .int x1], [(0, .ref 0), (1, .int x1), (2, .int x2)], hM, 0, 0)) rfl ?_
            refine Ex.call0 (as := [.int x1, .int 1, .int 20]) (rest := []) (r := (some (.int 1))) (c1 := 0) (s1 := 0) rfl rfl rfl rfl (by
              refine Rn.of (me := me145) rfl ⟨Nat.le_of_ble_eq_true rfl, rfl⟩ rfl ?_
              refine Ex.steps 2 (S' := (2, [.int 1, .int x1], [(0, .int x1), (1, .int 1), (2, .int 20)], [], 0, 0)) rfl ?_
              refine Ex.icmp rfl (cF_lt h1) rfl ?_
              refine Ex.steps 2 (S' := (7, [.int 20, .int x1], [(0, .int x1), (1, .int 1), (2, .int 20)], [], 0, 0)) rfl ?_
              refine Ex.icmp rfl (cF_gt h2) rfl ?_
              refine Ex.steps 2 (S' := (15, [.int 1], [(0, .int x1), (1, .int 1), (2, .int 20)], [], 0, 0)) rfl ?_
              exact Ex.ret rfl rfl) ?_
            refine Ex.steps 4 (S' := (14, [.int 50, .int 1, .int x2], [(0, .ref 0), (1, .int x1), (2, .int x2)], hM, 0, 0)) rfl ?_
            refine Ex.call0 (as := [.int x2, .int 1, .int 50]) (rest := []) (r := (some (.int 1))) (c1 := 0) (s1 := 0) rfl rfl rfl rfl (by
              refine Rn.of (me := me145) rfl ⟨Nat.le_of_ble_eq_true rfl, rfl⟩ rfl ?_
              refine Ex.steps 2 (S' := (2, [.int 1, .int x2], [(0, .int x2), (1, .int 1), (2, .int 50)], [], 0, 0)) rfl ?_
              refine Ex.icmp rfl (cF_lt h3) rfl ?_
              refine Ex.steps 2 (S' := (7, [.int 50, .int x2], [(0, .int x2), (1, .int 1), (2, .int 50)], [], 0, 0)) rfl ?_
              refine Ex.icmp rfl (cF_gt h4) rfl ?_
              refine Ex.steps 2 (S' := (15, [.int 1], [(0, .int x2), (1, .int 1), (2, .int 50)], [], 0, 0)) rfl ?_
              exact Ex.ret rfl rfl) ?_
            refine Ex.steps 12 (S' := (40, [.int 1], [(0, .ref 0), (1, .int x1), (2, .int x2)], ((hM.set 1 (.inr (0, .inl ([3, 0, 0, 0, 0, 0, 0, 0, 3, 5, 0, 0, 0, 0, 0, 0, 0, 100, 0, 0, (-1), 0, 0, 0, 0, 0, 0, 0, 0, 0, 0, 0, 0, 0, 0, 0, 0, 0, 0, 0, 0, 0, 1, 0, 0, 0, 0, 0, 0, 0, 0, 0, 0, 0, 0, 0, 0, 0, 0, 0, 0, 0, 0, 0, 0, 0, 0, 0, 0, 0, 0, 0, 0, 0, 0, 0, 0, 0, 0, 0, 0, 0, 1, 0, 0, 0, 0, 0, 0, 0, 0, 0, 0, 0, 0, 0, 0, 0, 0, 0, 0, 0, 0, 0, 0, 0, 0, 0, 0, 0, 0, 0, 0, 0, 0, 0, 0, 0, 0, 0, 0, 0, 1, 0, 0, 0, 0, 0, 0, 0, 0, 0, 0, 0, 0, 0, 0, 0, 0, 0, 0, 0, 0, 0, 0, 0, 0, 0, 0, 0, 0, 0, 0, 0, 0, 0, 0, 0, 0, 0, 0, 0, 1, 0, 0, 0, 0, 0, 0, 0, 0, 0, 0, 0, 0, 0, 0, 0, 0, 0, 0, 0, 0, 0, 0, 0, 0, 0, 0, 0, 0, 0, 0, 0, 0, 0, 0, 0, 0, 0, 0, 0, 0, 0, 0, 0, 0, 0, 0, 0, 0, 0, 0, 0, 0, 0, 0, 0, 0, 0, 0, 0, 0, 0, 0, 0, 0, 0, 0, 0, 0, 0, 0, 0, 0, 0, 0, 0, 0, 0, 0, 0, 0, 0, 0, 0, 0, 0, 0, 0, 0, 0, 0, 0, 0, 0, 0, 0, 0, 0, 0, 0, 0, 0, 0, 0, 0, 0, 0, 0, 0, 0, 0, 0, 0, 0, 0, 0, 0, 0, 0, 0, 0, 0, 0, 0, 0, 0, 0, 0, 0, 0, 0, 0, 0, 0, 0, 0, 0, 0, 0, 0, 0, 0, 0, 0, 0, 0, 0, 0, 0, 0, 0, 0, 0, 0, 0, 0, 0, 0, 0, 0, 0, 0, 0, 0, 0, 0, 0, 0, 0, 0, 0, 0, 0, 0, 0, 0, 0, 0, 0, 0, 0, 0, 0, 0, 0, 0, 0, 0, 0, 0, 0, 0, 0, 0, 0, 0, 0, 0, 0, 0, 0, 0, 0, 0, 0, 0, 0, 0, 0, 0, 0, 0, 0, 0, 0, 0, 0, 0, 0, 0, 0, 0, 0, 0, 0, 0, 0, 0, 0, 0, 0, 0, 0, 0, 0, 0, 0, 0, 0, 0, 0, 0, 0, 0, 0, 0, 0, 0, 0, 0, 0, 0, 0, 0, 0, 0, 0, 0, 0, 0, 0, 0, 0, 0, 0, 0, 0, 0, 0, 0, 0, 0, 0, 0, 0, 0, 0, 0, 0, 0, 0, 0, 0, 0, 0, 0, 0, 0, 0, 0, 0, 0, 0, 0, 0, 0, 0, 0, 0, 0, 0, 0, 0, 0, 0, 0, 0, 0, 0, 0, 0, 0, 0, 0, 0, 0, 0, 0, 0, 0, 0, 0, 0, 0, 0, 0, 0, 0, 0, 0, 0, 0, 0, 0, 0, 0, 0, 0, 0, 0, 0, 0, 0, 0, 0, 0, 0, 0, 0, 0, 0, 0, 0, 0, 0, 0, 0, 0, 0, 0, 0, 0, 0, 0, 0, 0, 0, 0, 0, 0, 0, 0, 0, 0, 0, 0, 0, 0, 0, 0, 0, 0, 0, 0, 0, 0, 0, 0, 0, 0, 0, 0, 0, 0, 0, 0, 0, 0, 0, 0, 0, 0, 0, 0, 0, 0, 0, 0, 0, 0, 0, 0, 0, 0, 0, 0, 0, 0, 0, 0, 0, 0, 0, 0, 0, 0, 0, 0, 0, 0, 0, 0, 0, 0, 0, 0, 0, 0, 0, 0, 0, 0, 0, 0, 0, 0, 0, 0, 0, 0, 0, 0, 0, 0, 0, 0, 0, 0, 0, 0, 0, 0, 0, 0, 0, 0, 0, 0, 0, 0, 0, 0, 0, 0, 0, 0, 0, 0, 0, 0, 0, 0, 0, 0, 0, 0, 0, 0, 0, 0, 0, 0, 0, 0, 0, 0, 0, 0, 0, 0, 0, 0, 0, 0, 0, 0, 0, 0, 0, 0, 0, 0, 0, 0, 0, 0, 0, 0, 0, 0, 0, 0, 0, 0, 0, 0, 0, 0, 0, 0, 0, 0, 0, 0, 0, 0, 0, 0, 0, 0, 0, 0, 0, 0, 0, 0, 0, 0, 0, 0, 0, 0, 0, 0, 0, 0, 0, 0, 0, 0, 0, 0, 0, 0, 0, 0, 0, 0, 0, 0, 0, 0, 0, 0, 0, 0, 0, 0, 0, 0, 0, 0, 0, 0, 0, 0, 0, 0, 0, 0, 0, 0, 0, 0, 0, 0, 0, 0, 0, 0, 0, 0, 0, 0, 0, 0, 0, 0, 0, 0, 0, 0, 0, 0, 0, 0, 0, 0, 0, 0, 0, 0, (-100), 100, (-100), 100, (-100), 100, (-100), 100, 0, 0, 0, 0, 0, 0, 0, 0, 0, 0, 0, 0, 0, 0, 0, 0, 0, 0, 0, 0, 0, 0, 0, 0, 0, 0, 0, 0, 0, 0, 0, 0, 0, 0, 0, 0, 0, 0, 0, 0, 0, 0, 0, 0, 0, 0, 0, 0, 0, 0, 0, 0, 0, 0, 0, 0, 0, 0, 0, 0, 0, 0, 0, 0, 0, 0, 0, 0, 0, 0, 0, 0, 0, 0, 0, 0, 0, 0, 0, 0, 0, 0, 0, 0, 0, 0, 0, 0, 0, 0, 0, 0, 0, 0, 0, 0, 0, 0, 0, 0, 0, 0, 0, 0, 0, 0, 0, 0, 0, 0, 0, 0, 0, 0, 0, 0, 0, 0].set 8 x1)))).set 1 (.inr (0, .inl (([3, 0, 0, 0, 0, 0, 0, 0, 3, 5, 0, 0, 0, 0, 0, 0, 0, 100, 0, 0, (-1), 0, 0, 0, 0, 0, 0, 0, 0, 0, 0, 0, 0, 0, 0, 0, 0, 0, 0, 0, 0, 0, 1, 0, 0, 0, 0, 0, 0, 0, 0, 0, 0, 0, 0, 0, 0, 0, 0, 0, 0, 0, 0, 0, 0, 0, 0, 0, 0, 0, 0, 0, 0, 0, 0, 0, 0, 0, 0, 0, 0, 0, 1, 0, 0, 0, 0, 0, 0, 0, 0, 0, 0, 0, 0, 0, 0, 0, 0, 0, 0, 0, 0, 0, 0, 0, 0, 0, 0, 0, 0, 0, 0, 0, 0, 0, 0, 0, 0, 0, 0, 0, 1, 0, 0, 0, 0, 0, 0, 0, 0, 0, 0, 0, 0, 0, 0, 0, 0, 0, 0, 0, 0, 0, 0, 0, 0, 0, 0, 0, 0, 0, 0, 0, 0, 0, 0, 0, 0, 0, 0, 0, 1, 0, 0, 0, 0, 0, 0, 0, 0, 0, 0, 0, 0, 0, 0, 0, 0, 0, 0, 0, 0, 0, 0, 0, 0, 0, 0, 0, 0, 0, 0, 0, 0, 0, 0, 0, 0, 0, 0, 0, 0, 0, 0, 0, 0, 0, 0, 0, 0, 0, 0, 0, 0, 0, 0, 0, 0, 0, 0, 0, 0, 0, 0, 0, 0, 0, 0, 0, 0, 0, 0, 0, 0, 0, 0, 0, 0, 0, 0, 0, 0, 0, 0, 0, 0, 0, 0, 0, 0, 0, 0, 0, 0, 0, 0, 0, 0, 0, 0, 0, 0, 0, 0, 0, 0, 0, 0, 0, 0, 0, 0, 0, 0, 0, 0, 0, 0, 0, 0, 0, 0, 0, 0, 0, 0, 0, 0, 0, 0, 0, 0, 0, 0, 0, 0, 0, 0, 0, 0, 0, 0, 0, 0, 0, 0, 0, 0, 0, 0, 0, 0, 0, 0, 0, 0, 0, 0, 0, 0, 0, 0, 0, 0, 0, 0, 0, 0, 0, 0, 0, 0, 0, 0, 0, 0, 0, 0, 0, 0, 0, 0, 0, 0, 0, 0, 0, 0, 0, 0, 0, 0, 0, 0, 0, 0, 0, 0, 0, 0, 0, 0, 0, 0, 0, 0, 0, 0, 0, 0, 0, 0, 0, 0, 0, 0, 0, 0, 0, 0, 0, 0, 0, 0, 0, 0, 0, 0, 0, 0, 0, 0, 0, 0, 0, 0, 0, 0, 0, 0, 0, 0, 0, 0, 0, 0, 0, 0, 0, 0, 0, 0, 0, 0, 0, 0, 0, 0, 0, 0, 0, 0, 0, 0, 0, 0, 0, 0, 0, 0, 0, 0, 0, 0, 0, 0, 0, 0, 0, 0, 0, 0, 0, 0, 0, 0, 0, 0, 0, 0, 0, 0, 0, 0, 0, 0, 0, 0, 0, 0, 0, 0, 0, 0, 0, 0, 0, 0, 0, 0, 0, 0, 0, 0, 0, 0, 0, 0, 0, 0, 0, 0, 0, 0, 0, 0, 0, 0, 0, 0, 0, 0, 0, 0, 0, 0, 0, 0, 0, 0, 0, 0, 0, 0, 0, 0, 0, 0, 0, 0, 0, 0, 0, 0, 0, 0, 0, 0, 0, 0, 0, 0, 0, 0, 0, 0, 0, 0, 0, 0, 0, 0, 0, 0, 0, 0, 0, 0, 0, 0, 0, 0, 0, 0, 0, 0, 0, 0, 0, 0, 0, 0, 0, 0, 0, 0, 0, 0, 0, 0, 0, 0, 0, 0, 0, 0, 0, 0, 0, 0, 0, 0, 0, 0, 0, 0, 0, 0, 0, 0, 0, 0, 0, 0, 0, 0, 0, 0, 0, 0, 0, 0, 0, 0, 0, 0, 0, 0, 0, 0, 0, 0, 0, 0, 0, 0, 0, 0, 0, 0, 0, 0, 0, 0, 0, 0, 0, 0, 0, 0, 0, 0, 0, 0, 0, 0, 0, 0, 0, 0, 0, 0, 0, 0, 0, 0, 0, 0, 0, 0, 0, 0, 0, 0, 0, 0, 0, 0, 0, 0, 0, 0, 0, 0, 0, 0, 0, 0, 0, 0, 0, 0, 0, 0, 0, 0, 0, 0, 0, 0, 0, 0, 0, 0, 0, 0, 0, 0, 0, 0, 0, 0, 0, 0, 0, 0, 0, 0, 0, 0, 0, 0, 0, 0, 0, 0, 0, 0, 0, 0, 0, 0, 0, 0, 0, 0, 0, 0, 0, 0, 0, 0, 0, 0, 0, 0, 0, 0, 0, 0, 0, 0, 0, 0, 0, 0, 0, 0, 0, 0, 0, 0, 0, 0, 0, 0, 0, 0, 0, 0, 0, 0, 0, 0, 0, 0, 0, 0, 0, 0, 0, 0, 0, 0, 0, 0, 0, 0, 0, 0, 0, 0, 0, 0, 0, 0, 0, 0, 0, 0, 0, 0, 0, 0, 0, 0, 0, 0, 0, 0, 0, 0, 0, (-100), 100, (-100), 100, (-100), 100, (-100), 100, 0, 0, 0, 0, 0, 0, 0, 0, 0, 0, 0, 0, 0, 0, 0, 0, 0, 0, 0, 0, 0, 0, 0, 0, 0, 0, 0, 0, 0, 0, 0, 0, 0, 0, 0, 0, 0, 0, 0, 0, 0, 0, 0, 0, 0, 0, 0, 0, 0, 0, 0, 0, 0, 0, 0, 0, 0, 0, 0, 0, 0, 0, 0, 0, 0, 0, 0, 0, 0, 0, 0, 0, 0, 0, 0, 0, 0, 0, 0, 0, 0, 0, 0, 0, 0, 0, 0, 0, 0, 0, 0, 0, 0, 0, 0, 0, 0, 0, 0, 0, 0, 0, 0, 0, 0, 0, 0, 0, 0, 0, 0, 0, 0, 0, 0, 0, 0, 0].set 8 x1).set 9 x2)))), 0, 0)) rfl ?_
            exact Ex.ret rfl rfl) (by decide)
set_option maxHeartbeats 8000000 in
set_option maxRecDepth 100000 in
theorem both_body (x1 x2 : Int32) : BothI 28 155 [.int x1, .int x2] := by
  by_cases h1 : (x1 : Int32) < 0
  ·
    exact mkI (x := (-2)) (c1 := 0) (s1 := 0) (c2 := 0) (s2 := 0) (by
      refine Rn.of (me := me28) rfl ⟨Nat.le_of_ble_eq_true rfl, rfl⟩ rfl ?_
      refine Ex.steps 3 (S' := (4, [.int 1000000, .int 0, .int x1], [(0, .ref 0), (1, .int x1), (2, .int x2)], hX, 0, 0)) rfl ?_
      refine Ex.call0 (as := [.int x1, .int 0, .int 1000000]) (rest := []) (r := (some (.int 0))) (c1 := 0) (s1 := 0) rfl rfl rfl rfl (by
        refine Rn.of (me := me12) rfl ⟨Nat.le_of_ble_eq_true rfl, rfl⟩ rfl ?_
        refine Ex.steps 2 (S' := (2, [.int 0, .int x1], [(0, .int x1), (1, .int 0), (2, .int 1000000)], [], 0, 0)) rfl ?_
        refine Ex.icmp rfl (cT_lt h1) rfl ?_
        refine Ex.steps 1 (S' := (15, [.int 0], [(0, .int x1), (1, .int 0), (2, .int 1000000)], [], 0, 0)) rfl ?_
        exact Ex.ret rfl rfl) ?_
      refine Ex.steps 2 (S' := (23, [.int (-2)], [(0, .ref 0), (1, .int x1), (2, .int x2)], hX, 0, 0)) rfl ?_
      exact Ex.ret rfl rfl) (by
      refine Rn.of (me := me155) rfl ⟨Nat.le_of_ble_eq_true rfl, rfl⟩ rfl ?_
      refine Ex.steps 3 (S' := (4, [.int 1000000, .int 0, .int x1], [(0, .ref 0), (1, .int x1), (2, .int x2)], hM, 0, 0)) rfl ?_
      refine Ex.call0 (as := [.int x1, .int 0, .int 1000000]) (rest := []) (r := (some (.int 0))) (c1 := 0) (s1 := 0) rfl rfl rfl rfl (by
        refine Rn.of (me := me145) rfl ⟨Nat.le_of_ble_eq_true rfl, rfl⟩ rfl ?_
        refine Ex.steps 2 (S' := (2, [.int 0, .int x1], [(0, .int x1), (1, .int 0), (2, .int 1000000)], [], 0, 0)) rfl ?_
        refine Ex.icmp rfl (cT_lt h1) rfl ?_
        refine Ex.steps 1 (S' := (15, [.int 0], [(0, .int x1), (1, .int 0), (2, .int 1000000)], [], 0, 0)) rfl ?_
        exact Ex.ret rfl rfl) ?_
      refine Ex.steps 2 (S' := (23, [.int (-2)], [(0, .ref 0), (1, .int x1), (2, .int x2)], hM, 0, 0)) rfl ?_
      exact Ex.ret rfl rfl) (by decide)
  ·
    by_cases h2 : (1000000 : Int32) < x1
    ·
      exact mkI (x := (-2)) (c1 := 0) (s1 := 0) (c2 := 0) (s2 := 0) (by
        refine Rn.of (me := me28) rfl ⟨Nat.le_of_ble_eq_true rfl, rfl⟩ rfl ?_
        refine Ex.steps 3 (S' := (4, [.int 1000000, .int 0, .int x1], [(0, .ref 0), (1, .int x1), (2, .int x2)], hX, 0, 0)) rfl ?_
        refine Ex.call0 (as := [.int x1, .int 0, .int 1000000]) (rest := []) (r := (some (.int 0))) (c1 := 0) (s1 := 0) rfl rfl rfl rfl (by
          refine Rn.of (me := me12) rfl ⟨Nat.le_of_ble_eq_true rfl, rfl⟩ rfl ?_
          refine Ex.steps 2 (S' := (2, [.int 0, .int x1], [(0, .int x1), (1, .int 0), (2, .int 1000000)], [], 0, 0)) rfl ?_
          refine Ex.icmp rfl (cF_lt h1) rfl ?_
          refine Ex.steps 2 (S' := (7, [.int 1000000, .int x1], [(0, .int x1), (1, .int 0), (2, .int 1000000)], [], 0, 0)) rfl ?_
          refine Ex.icmp rfl (cT_gt h2) rfl ?_
          refine Ex.steps 1 (S' := (15, [.int 0], [(0, .int x1), (1, .int 0), (2, .int 1000000)], [], 0, 0)) rfl ?_
          exact Ex.ret rfl rfl) ?_
        refine Ex.steps 2 (S' := (23, [.int (-2)], [(0, .ref 0), (1, .int x1), (2, .int x2)], hX, 0, 0)) rfl ?_
        exact Ex.ret rfl rfl) (by
        refine Rn.of (me := me155) rfl ⟨Nat.le_of_ble_eq_true rfl, rfl⟩ rfl ?_
        refine Ex.steps 3 (S' := (4, [.int 1000000, .int 0, .int x1], [(0, .ref 0), (1, .int x1), (2, .int x2)], hM, 0, 0)) rfl ?_
        refine Ex.call0 (as := [.int x1, .int 0, .int 1000000]) (rest := []) (r := (some (.int 0))) (c1 := 0) (s1 := 0) rfl rfl rfl rfl (by
          refine Rn.of (me := me145) rfl ⟨Nat.le_of_ble_eq_true rfl, rfl⟩ rfl ?_
          refine Ex.steps 2 (S' := (2, [.int 0, .int x1], [(0, .int x1), (1, .int 0), (2, .int 1000000)], [], 0, 0)) rfl ?_
          refine Ex.icmp rfl (cF_lt h1) rfl ?_
          refine Ex.steps 2 (S' := (7, [.int 1000000, .int x1], [(0, .int x1), (1, .int 0), (2, .int 1000000)], [], 0, 0)) rfl ?_
          refine Ex.icmp rfl (cT_gt h2) rfl ?_
          refine Ex.steps 1 (S' := (15, [.int 0], [(0, .int x1), (1, .int 0), (2, .int 1000000)], [], 0, 0)) rfl ?_
          exact Ex.ret rfl rfl) ?_
        refine Ex.steps 2 (S' := (23, [.int (-2)], [(0, .ref 0), (1, .int x1), (2, .int x2)], hM, 0, 0)) rfl ?_
        exact Ex.ret rfl rfl) (by decide)
    ·
      by_cases h3 : (x2 : Int32) < (-1000000)
      ·
        exact mkI (x := (-2)) (c1 := 0) (s1 := 0) (c2 := 0) (s2 := 0) (by
          refine Rn.of (me := me28) rfl ⟨Nat.le_of_ble_eq_true rfl, rfl⟩ rfl ?_
          refine Ex.steps 3 (S' := (4, [.int 1000000, .int 0, .int x1], [(0, .ref 0), (1, .int x1), (2, .int x2)], hX, 0, 0)) rfl ?_
          refine Ex.call0 (as := [.int x1, .int 0, .int 1000000]) (rest := []) (r := (some (.int 1))) (c1 := 0) (s1 := 0) rfl rfl rfl rfl (by
            refine Rn.of (me := me12) rfl ⟨Nat.le_of_ble_eq_true rfl, rfl⟩ rfl ?_
            refine Ex.steps 2 (S' := (2, [.int 0, .int x1], [(0, .int x1), (1, .int 0), (2, .int 1000000)], [], 0, 0)) rfl ?_
            refine Ex.icmp rfl (cF_lt h1) rfl ?_
            refine Ex.steps 2 (S' := (7, [.int 1000000, .int x1], [(0, .int x1), (1, .int 0), (2, .int 1000000)], [], 0, 0)) rfl ?_
            refine Ex.icmp rfl (cF_gt h2) rfl ?_
            refine Ex.steps 2 (S' := (15, [.int 1], [(0, .int x1), (1, .int 0), (2, .int 1000000)], [], 0, 0)) rfl ?_
            exact Ex.ret rfl rfl) ?_
          refine Ex.steps 4 (S' := (15, [.int 1000000, .int (-1000000), .int x2], [(0, .ref 0), (1, .int x1), (2, .int x2)], hX, 0, 0)) rfl ?_
          refine Ex.call0 (as := [.int x2, .int (-1000000), .int 1000000]) (rest := []) (r := (some (.int 0))) (c1 := 0) (s1 := 0) rfl rfl rfl rfl (by
            refine Rn.of (me := me12) rfl ⟨Nat.le_of_ble_eq_true rfl, rfl⟩ rfl ?_
            refine Ex.steps 2 (S' := (2, [.int (-1000000), .int x2], [(0, .int x2), (1, .int (-1000000)), (2, .int 1000000)], [], 0, 0)) rfl ?_
            refine Ex.icmp rfl (cT_lt h3) rfl ?_
            refine Ex.steps 1 (S' := (15, [.int 0], [(0, .int x2), (1, .int (-1000000)), (2, .int 1000000)], [], 0, 0)) rfl ?_
            exact Ex.ret rfl rfl) ?_
          refine Ex.steps 2 (S' := (23, [.int (-2)], [(0, .ref 0), (1, .int x1), (2, .int x2)], hX, 0, 0)) rfl ?_
          exact Ex.ret rfl rfl) (by
          refine Rn.of (me := me155) rfl ⟨Nat.le_of_ble_eq_true rfl, rfl⟩ rfl ?_
          refine Ex.steps 3 (S' := (4, [.int 1000000, .int 0, .int x1], [(0, .ref 0), (1, .int x1), (2, .int x2)], hM, 0, 0)) rfl ?_
          refine Ex.call0 (as := [.int x1, .int 0, .int 1000000]) (rest := []) (r := (some (.int 1))) (c1 := 0) (s1 := 0) rfl rfl rfl rfl (by
            refine Rn.of (me := me145) rfl ⟨Nat.le_of_ble_eq_true rfl, rfl⟩ rfl ?_
            refine Ex.steps 2 (S' := (2, [.int 0, .int x1], [(0, .int x1), (1, .int 0), (2, .int 1000000)], [], 0, 0)) rfl ?_
            refine Ex.icmp rfl (cF_lt h1) rfl ?_
            refine Ex.steps 2 (S' := (7, [.int 1000000, .int x1], [(0, .int x1), (1, .int 0), (2, .int 1000000)], [], 0, 0)) rfl ?_
            refine Ex.icmp rfl (cF_gt h2) rfl ?_
            refine Ex.steps 2 (S' := (15, [.int 1], [(0, .int x1), (1, .int 0), (2, .int 1000000)], [], 0, 0)) rfl ?_
            exact Ex.ret rfl rfl) ?_
          refine Ex.steps 4 (S' := (15, [.int 1000000, .int (-1000000), .int x2], [(0, .ref 0), (1, .int x1), (2, .int x2)], hM, 0, 0)) rfl ?_
          refine Ex.call0 (as := [.int x2, .int (-1000000), .int 1000000]) (rest := []) (r := (some (.int 0))) (c1 := 0) (s1 := 0) rfl rfl rfl rfl (by
            refine Rn.of (me := me145) rfl ⟨Nat.le_of_ble_eq_true rfl, rfl⟩ rfl ?_
            refine Ex.steps 2 (S' := (2, [.int (-1000000), .int x2], [(0, .int x2), (1, .int (-1000000)), (2, .int 1000000)], [], 0, 0)) rfl ?_
            refine Ex.icmp rfl (cT_lt h3) rfl ?_
            refine Ex.steps 1 (S' := (15, [.int 0], [(0, .int x2), (1, .int (-1000000)), (2, .int 1000000)], [], 0, 0)) rfl ?_
            exact Ex.ret rfl rfl) ?_
          refine Ex.steps 2 (S' := (23, [.int (-2)], [(0, .ref 0), (1, .int x1), (2, .int x2)], hM, 0, 0)) rfl ?_
          exact Ex.ret rfl rfl) (by decide)
      ·
        by_cases h4 : (1000000 : Int32) < x2
        ·
          exact mkI (x := (-2)) (c1 := 0) (s1 := 0) (c2 := 0) (s2 := 0) (by
            refine Rn.of (me := me28) rfl ⟨Nat.le_of_ble_eq_true rfl, rfl⟩ rfl ?_
            refine Ex.steps 3 (S' := (4, [.int 1000000, .int 0, .int x1], [(0, .ref 0), (1, .int x1), (2, .int x2)], hX, 0, 0)) rfl ?_
            refine Ex.call0 (as := [.int x1, .int 0, .int 1000000]) (rest := []) (r := (some (.int 1))) (c1 := 0) (s1 := 0) rfl rfl rfl rfl (by
              refine Rn.of (me := me12) rfl ⟨Nat.le_of_ble_eq_true rfl, rfl⟩ rfl ?_
              refine Ex.steps 2 (S' := (2, [.int 0, .int x1], [(0, .int x1), (1, .int 0), (2, .int 1000000)], [], 0, 0)) rfl ?_
              refine Ex.icmp rfl (cF_lt h1) rfl ?_
              refine Ex.steps 2 (S' := (7, [.int 1000000, .int x1], [(0, .int x1), (1, .int 0), (2, .int 1000000)], [], 0, 0)) rfl ?_
              refine Ex.icmp rfl (cF_gt h2) rfl ?_
              refine Ex.steps 2 (S' := (15, [.int 1], [(0, .int x1), (1, .int 0), (2, .int 1000000)], [], 0, 0)) rfl ?_
              exact Ex.ret rfl rfl) ?_
            refine Ex.steps 4 (S' := (15, [.int 1000000, .int (-1000000), .int x2], [(0, .ref 0), (1, .int x1), (2, .int x2)], hX, 0, 0)) rfl ?_
            refine Ex.call0 (as := [.int x2, .int (-1000000), .int 1000000]) (rest := []) (r := (some (.int 0))) (c1 := 0) (s1 := 0) rfl rfl rfl rfl (by
              refine Rn.of (me := me12) rfl ⟨Nat.le_of_ble_eq_true rfl, rfl⟩ rfl ?_
              refine Ex.steps 2 (S' := (2, [.int (-1000000), .int x2], [(0, .int x2), (1, .int (-1000000)), (2, .int 1000000)], [], 0, 0)) rfl ?_
              refine Ex.icmp rfl (cF_lt h3) rfl ?_
              refine Ex.steps 2 (S' := (7, [.int 1000000, .int x2], [(0, .int x2), (1, .int (-1000000)), (2, .int 1000000)], [], 0, 0)) rfl ?_
              refine Ex.icmp rfl (cT_gt h4) rfl ?_
              refine Ex.steps 1 (S' := (15, [.int 0], [(0, .int x2), (1, .int (-1000000)), (2, .int 1000000)], [], 0, 0)) rfl ?_
              exact Ex.ret rfl rfl) ?_
            refine Ex.steps 2 (S' := (23, [.int (-2)], [(0, .ref 0), (1, .int x1), (2, .int x2)], hX, 0, 0)) rfl ?_
            exact Ex.ret rfl rfl) (by
            refine Rn.of (me := me155) rfl ⟨Nat.le_of_ble_eq_true rfl, rfl⟩ rfl ?_
            refine Ex.steps 3 (S' := (4, [.int 1000000, .int 0, .int x1], [(0, .ref 0), (1, .int x1), (2, .int x2)], hM, 0, 0)) rfl ?_
            refine Ex.call0 (as := [.int x1, .int 0, .int 1000000]) (rest := []) (r := (some (.int 1))) (c1 := 0) (s1 := 0) rfl rfl rfl rfl (by
              refine Rn.of (me := me145) rfl ⟨Nat.le_of_ble_eq_true rfl, rfl⟩ rfl ?_
              refine Ex.steps 2 (S' := (2, [.int 0, .int x1], [(0, .int x1), (1, .int 0), (2, .int 1000000)], [], 0, 0)) rfl ?_
              refine Ex.icmp rfl (cF_lt h1) rfl ?_
              refine Ex.steps 2 (S' := (7, [.int 1000000, .int x1], [(0, .int x1), (1, .int 0), (2, .int 1000000)], [], 0, 0)) rfl ?_
              refine Ex.icmp rfl (cF_gt h2) rfl ?_
              refine Ex.steps 2 (S' := (15, [.int 1], [(0, .int x1), (1, .int 0), (2, .int 1000000)], [], 0, 0)) rfl ?_
              exact Ex.ret rfl rfl) ?_
            refine Ex.steps 4 (S' := (15, [.int 1000000, .int (-1000000), .int x2], [(0, .ref 0), (1, .int x1), (2, .int x2)], hM, 0, 0)) rfl ?_
            refine Ex.call0 (as := [.int x2, .int (-1000000), .int 1000000]) (rest := []) (r := (some (.int 0))) (c1 := 0) (s1 := 0) rfl rfl rfl rfl (by
              refine Rn.of (me := me145) rfl ⟨Nat.le_of_ble_eq_true rfl, rfl⟩ rfl ?_
              refine Ex.steps 2 (S' := (2, [.int (-1000000), .int x2], [(0, .int x2), (1, .int (-1000000)), (2, .int 1000000)], [], 0, 0)) rfl ?_
              refine Ex.icmp rfl (cF_lt h3) rfl ?_
              refine Ex.steps 2 (S' := (7, [.int 1000000, .int x2], [(0, .int x2), (1, .int (-1000000)), (2, .int 1000000)], [], 0, 0)) rfl ?_
              refine Ex.icmp rfl (cT_gt h4) rfl ?_
              refine Ex.steps 1 (S' := (15, [.int 0], [(0, .int x2), (1, .int (-1000000)), (2, .int 1000000)], [], 0, 0)) rfl ?_
              exact Ex.ret rfl rfl) ?_
            refine Ex.steps 2 (S' := (23, [.int (-2)], [(0, .ref 0), (1, .int x1), (2, .int x2)], hM, 0, 0)) rfl ?_
            exact Ex.ret rfl rfl) (by decide)
        ·
          exact mkI (x := 1) (c1 := 0) (s1 := 0) (c2 := 0) (s2 := 0) (by
            refine Rn.of (me := me28) rfl ⟨Nat.le_of_ble_eq_true rfl, rfl⟩ rfl ?_
            refine Ex.steps 3 (S' := (4, [.int 1000000, .int 0, .int x1], [(0, .ref 0), (1, .int x1), (2, .int x2)], hX, 0, 0)) rfl ?_
            refine Ex.call0 (as := [.int x1, .int 0, .int 1000000]) (rest := []) (r := (some (.int 1))) (c1 := 0) (s1 := 0) rfl rfl rfl rfl (by
              refine Rn.of (me := me12) rfl ⟨Nat.le_of_ble_eq_true rfl, rfl⟩ rfl ?_
              refine Ex.steps 2 (S' := (2, [.int 0, .int x1], [(0, .int x1), (1, .int 0), (2, .int 1000000)], [], 0, 0)) rfl ?_
              refine Ex.icmp rfl (cF_lt h1) rfl ?_
              refine Ex.steps 2 (S' := (7, [.int 1000000, .int x1], [(0, .int x1), (1, .int 0), (2, .int 1000000)], [], 0, 0)) rfl ?_
              refine Ex.icmp rfl (cF_gt h2) rfl ?_
              refine Ex.steps 2 (S' := (15, [.int 1], [(0, .int x1), (1, .int 0), (2, .int 1000000)], [], 0, 0)) rfl ?_
              exact Ex.ret rfl rfl) ?_
            refine Ex.steps 4 (S' := (15, [.int 1000000, .int (-1000000), .int x2], [(0, .ref 0), (1, .int x1), (2, .int x2)], hX, 0, 0)) rfl ?_
            refine Ex.call0 (as := [.int x2, .int (-1000000), .int 1000000]) (rest := []) (r := (some (.int 1))) (c1 := 0) (s1 := 0) rfl rfl rfl rfl (by
              refine Rn.of (me := me12) rfl ⟨Nat.le_of_ble_eq_true rfl, rfl⟩ rfl ?_
              refine Ex.steps 2 (S' := (2, [.int (-1000000), .int x2], [(0, .int x2), (1, .int (-1000000)), (2, .int 1000000)], [], 0, 0)) rfl ?_
              refine Ex.icmp rfl (cF_lt h3) rfl ?_
              refine Ex.steps 2 (S' := (7, [.int 1000000, .int x2], [(0, .int x2), (1, .int (-1000000)), (2, .int 1000000)], [], 0, 0)) rfl ?_
              refine Ex.icmp rfl (cF_gt h4) rfl ?_
              refine Ex.steps 2 (S' := (15, [.int 1], [(0, .int x2), (1, .int (-1000000)), (2, .int 1000000)], [], 0, 0)) rfl ?_
              exact Ex.ret rfl rfl) ?_
            refine Ex.steps 10 (S' := (41, [.int 1], [(0, .ref 0), (1, .int x1), (2, .int x2)], ((hX.set 41 (.inl (7, [.ref 42, .int 7, .ref 51, .ref 55, .ref 56, .int 0, .int x1, .int 0, .int 0, .int 0, .int 0, .int 0, .int 0, .int 0, .int 0, .int 0, .int (-1)]))).set 41 (.inl (7, [.ref 42, .int 7, .ref 51, .ref 55, .ref 56, .int 0, .int x1, .int x2, .int 0, .int 0, .int 0, .int 0, .int 0, .int 0, .int 0, .int 0, .int (-1)]))), 0, 0)) rfl ?_
            exact Ex.ret rfl rfl) (by
            refine Rn.of (me := me155) rfl ⟨Nat.le_of_ble_eq_true rfl, rfl⟩ rfl ?_
            refine Ex.steps 3 (S' := (4, [.int 1000000, .int 0, .int x1], [(0, .ref 0), (1, .int x1), (2, .int x2)], hM, 0, 0)) rfl ?_
            refine Ex.call0 (as := [.int x1, .int 0, .int 1000000]) (rest := []) (r := (some (.int 1))) (c1 := 0) (s1 := 0) rfl rfl rfl rfl (by
              refine Rn.of (me := me145) rfl ⟨Nat.le_of_ble_eq_true rfl, rfl⟩ rfl ?_
              refine Ex.steps 2 (S' := (2, [.int 0, .int x1], [(0, .int x1), (1, .int 0), (2, .int 1000000)], [], 0, 0)) rfl ?_
              refine Ex.icmp rfl (cF_lt h1) rfl ?_
              refine Ex.steps 2 (S' := (7, [.int 1000000, .int x1], [(0, .int x1), (1, .int 0), (2, .int 1000000)], [], 0, 0)) rfl ?_
              refine Ex.icmp rfl (cF_gt h2) rfl ?_
              refine Ex.steps 2 (S' := (15, [.int 1], [(0, .int x1), (1, .int 0), (2, .int 1000000)], [], 0, 0)) rfl ?_
              exact Ex.ret rfl rfl) ?_
            refine Ex.steps 4 (S' := (15, [.int 1000000, .int (-1000000), .int x2], [(0, .ref 0), (1, .int x1), (2, .int x2)], hM, 0, 0)) rfl ?_
            refine Ex.call0 (as := [.int x2, .int (-1000000), .int 1000000]) (rest := []) (r := (some (.int 1))) (c1 := 0) (s1 := 0) rfl rfl rfl rfl (by
              refine Rn.of (me := me145) rfl ⟨Nat.le_of_ble_eq_true rfl, rfl⟩ rfl ?_
              refine Ex.steps 2 (S' := (2, [.int (-1000000), .int x2], [(0, .int x2), (1, .int (-1000000)), (2, .int 1000000)], [], 0, 0)) rfl ?_
              refine Ex.icmp rfl (cF_lt h3) rfl ?_
              refine Ex.steps 2 (S' := (7, [.int 1000000, .int x2], [(0, .int x2), (1, .int (-1000000)), (2, .int 1000000)], [], 0, 0)) rfl ?_
              refine Ex.icmp rfl (cF_gt h4) rfl ?_
              refine Ex.steps 2 (S' := (15, [.int 1], [(0, .int x2), (1, .int (-1000000)), (2, .int 1000000)], [], 0, 0)) rfl ?_
              exact Ex.ret rfl rfl) ?_
            refine Ex.steps 12 (S' := (41, [.int 1], [(0, .ref 0), (1, .int x1), (2, .int x2)], ((hM.set 1 (.inr (0, .inl ([3, 0, 0, 0, 0, 0, 0, 0, 3, 5, 0, 0, 0, 0, 0, 0, 0, 100, 0, 0, (-1), 0, 0, 0, 0, 0, 0, 0, 0, 0, 0, 0, 0, 0, 0, 0, 0, 0, 0, 0, 0, 0, 1, 0, 0, 0, 0, 0, 0, 0, 0, 0, 0, 0, 0, 0, 0, 0, 0, 0, 0, 0, 0, 0, 0, 0, 0, 0, 0, 0, 0, 0, 0, 0, 0, 0, 0, 0, 0, 0, 0, 0, 1, 0, 0, 0, 0, 0, 0, 0, 0, 0, 0, 0, 0, 0, 0, 0, 0, 0, 0, 0, 0, 0, 0, 0, 0, 0, 0, 0, 0, 0, 0, 0, 0, 0, 0, 0, 0, 0, 0, 0, 1, 0, 0, 0, 0, 0, 0, 0, 0, 0, 0, 0, 0, 0, 0, 0, 0, 0, 0, 0, 0, 0, 0, 0, 0, 0, 0, 0, 0, 0, 0, 0, 0, 0, 0, 0, 0, 0, 0, 0, 1, 0, 0, 0, 0, 0, 0, 0, 0, 0, 0, 0, 0, 0, 0, 0, 0, 0, 0, 0, 0, 0, 0, 0, 0, 0, 0, 0, 0, 0, 0, 0, 0, 0, 0, 0, 0, 0, 0, 0, 0, 0, 0, 0, 0, 0, 0, 0, 0, 0, 0, 0, 0, 0, 0, 0, 0, 0, 0, 0, 0, 0, 0, 0, 0, 0, 0, 0, 0, 0, 0, 0, 0, 0, 0, 0, 0, 0, 0, 0, 0, 0, 0, 0, 0, 0, 0, 0, 0, 0, 0, 0, 0, 0, 0, 0, 0, 0, 0, 0, 0, 0, 0, 0, 0, 0, 0, 0, 0, 0, 0, 0, 0, 0, 0, 0, 0, 0, 0, 0, 0, 0, 0, 0, 0, 0, 0, 0, 0, 0, 0, 0, 0, 0, 0, 0, 0, 0, 0, 0, 0, 0, 0, 0, 0, 0, 0, 0, 0, 0, 0, 0, 0, 0, 0, 0, 0, 0, 0, 0, 0, 0, 0, 0, 0, 0, 0, 0, 0, 0, 0, 0, 0, 0, 0, 0, 0, 0, 0, 0, 0, 0, 0, 0, 0, 0, 0, 0, 0, 0, 0, 0, 0, 0, 0, 0, 0, 0, 0, 0, 0, 0, 0, 0, 0, 0, 0, 0, 0, 0, 0, 0, 0, 0, 0, 0, 0, 0, 0, 0, 0, 0, 0, 0, 0, 0, 0, 0, 0, 0, 0, 0, 0, 0, 0, 0, 0, 0, 0, 0, 0, 0, 0, 0, 0, 0, 0, 0, 0, 0, 0, 0, 0, 0, 0, 0, 0, 0, 0, 0, 0, 0, 0, 0, 0, 0, 0, 0, 0, 0, 0, 0, 0, 0, 0, 0, 0, 0, 0, 0, 0, 0, 0, 0, 0, 0, 0, 0, 0, 0, 0, 0, 0, 0, 0, 0, 0, 0, 0, 0, 0, 0, 0, 0, 0, 0, 0, 0, 0, 0, 0, 0, 0, 0, 0, 0, 0, 0, 0, 0, 0, 0, 0, 0, 0, 0, 0, 0, 0, 0, 0, 0, 0, 0, 0, 0, 0, 0, 0, 0, 0, 0, 0, 0, 0, 0, 0, 0, 0, 0, 0, 0, 0, 0, 0, 0, 0, 0, 0, 0, 0, 0, 0, 0, 0, 0, 0, 0, 0, 0, 0, 0, 0, 0, 0, 0, 0, 0, 0, 0, 0, 0, 0, 0, 0, 0, 0, 0, 0, 0, 0, 0, 0, 0, 0, 0, 0, 0, 0, 0, 0, 0, 0, 0, 0, 0, 0, 0, 0, 0, 0, 0, 0, 0, 0, 0, 0, 0, 0, 0, 0, 0, 0, 0, 0, 0, 0, 0, 0, 0, 0, 0, 0, 0, 0, 0, 0, 0, 0, 0, 0, 0, 0, 0, 0, 0, 0, 0, 0, 0, 0, 0, 0, 0, 0, 0, 0, 0, 0, 0, 0, 0, 0, 0, 0, 0, 0, 0, 0, 0, 0, 0, 0, 0, 0, 0, 0, 0, 0, 0, 0, 0, 0, 0, 0, 0, 0, 0, 0, 0, 0, 0, 0, 0, 0, 0, 0, 0, 0, 0, 0, 0, 0, 0, 0, 0, 0, 0, 0, 0, 0, 0, 0, 0, 0, 0, 0, 0, 0, 0, 0, 0, 0, 0, 0, 0, 0, 0, 0, 0, 0, 0, 0, 0, 0, 0, 0, 0, 0, 0, 0, 0, 0, 0, 0, 0, 0, 0, 0, 0, 0, 0, 0, 0, 0, 0, 0, 0, 0, 0, 0, 0, 0, 0, 0, 0, 0, 0, 0, 0, 0, 0, 0, 0, 0, 0, 0, 0, 0, 0, 0, 0, 0, 0, 0, 0, 0, 0, 0, 0, 0, 0, 0, 0, 0, 0, 0, 0, 0, 0, 0, 0, 0, 0, 0, 0, 0, 0, 0, 0, 0, 0, 0, 0, 0, 0, 0, 0, 0, 0, 0, 0, (-100), 100, (-100), 100, (-100), 100, (-100), 100, 0, 0, 0, 0, 0, 0, 0, 0, 0, 0, 0, 0, 0, 0, 0, 0, 0, 0, 0, 0, 0, 0, 0, 0, 0, 0, 0, 0, 0, 0, 0, 0, 0, 0, 0, 0, 0, 0, 0, 0, 0, 0, 0, 0, 0, 0, 0, 0, 0, 0, 0, 0, 0, 0, 0, 0, 0, 0, 0, 0, 0, 0, 0, 0, 0, 0, 0, 0, 0, 0, 0, 0, 0, 0, 0, 0, 0, 0, 0, 0, 0, 0, 0, 0, 0, 0, 0, 0, 0, 0, 0, 0, 0, 0, 0, 0, 0, 0, 0, 0, 0, 0, 0, 0, 0, 0, 0, 0, 0, 0, 0, 0, 0, 0, 0, 0, 0, 0].set 10 x1)))).set 1 (.inr (0, .inl (([3, 0, 0, 0, 0, 0, 0, 0, 3, 5, 0, 0, 0, 0, 0, 0, 0, 100, 0, 0, (-1), 0, 0, 0, 0, 0, 0, 0, 0, 0, 0, 0, 0, 0, 0, 0, 0, 0, 0, 0, 0, 0, 1, 0, 0, 0, 0, 0, 0, 0, 0, 0, 0, 0, 0, 0, 0, 0, 0, 0, 0, 0, 0, 0, 0, 0, 0, 0, 0, 0, 0, 0, 0, 0, 0, 0, 0, 0, 0, 0, 0, 0, 1, 0, 0, 0, 0, 0, 0, 0, 0, 0, 0, 0, 0, 0, 0, 0, 0, 0, 0, 0, 0, 0, 0, 0, 0, 0, 0, 0, 0, 0, 0, 0, 0, 0, 0, 0, 0, 0, 0, 0, 1, 0, 0, 0, 0, 0, 0, 0, 0, 0, 0, 0, 0, 0, 0, 0, 0, 0, 0, 0, 0, 0, 0, 0, 0, 0, 0, 0, 0, 0, 0, 0, 0, 0, 0, 0, 0, 0, 0, 0, 1, 0, 0, 0, 0, 0, 0, 0, 0, 0, 0, 0, 0, 0, 0, 0, 0, 0, 0, 0, 0, 0, 0, 0, 0, 0, 0, 0, 0, 0, 0, 0, 0, 0, 0, 0, 0, 0, 0, 0, 0, 0, 0, 0, 0, 0, 0, 0, 0, 0, 0, 0, 0, 0, 0, 0, 0, 0, 0, 0, 0, 0, 0, 0, 0, 0, 0, 0, 0, 0, 0, 0, 0, 0, 0, 0, 0, 0, 0, 0, 0, 0, 0, 0, 0, 0, 0, 0, 0, 0, 0, 0, 0, 0, 0, 0, 0, 0, 0, 0, 0, 0, 0, 0, 0, 0, 0, 0, 0, 0, 0, 0, 0, 0, 0, 0, 0, 0, 0, 0, 0, 0, 0, 0, 0, 0, 0, 0, 0, 0, 0, 0, 0, 0, 0, 0, 0, 0, 0, 0, 0, 0, 0, 0, 0, 0, 0, 0, 0, 0, 0, 0, 0, 0, 0, 0, 0, 0, 0, 0, 0, 0, 0, 0, 0, 0, 0, 0, 0, 0, 0, 0, 0, 0, 0, 0, 0, 0, 0, 0, 0, 0, 0, 0, 0, 0, 0, 0, 0, 0, 0, 0, 0, 0, 0, 0, 0, 0, 0, 0, 0, 0, 0, 0, 0, 0, 0, 0, 0, 0, 0, 0, 0, 0, 0, 0, 0, 0, 0, 0, 0, 0, 0, 0, 0, 0, 0, 0, 0, 0, 0, 0, 0, 0, 0, 0, 0, 0, 0, 0, 0, 0, 0, 0, 0, 0, 0, 0, 0, 0, 0, 0, 0, 0, 0, 0, 0, 0, 0, 0, 0, 0, 0, 0, 0, 0, 0, 0, 0, 0, 0, 0, 0, 0, 0, 0, 0, 0, 0, 0, 0, 0, 0, 0, 0, 0, 0, 0, 0, 0, 0, 0, 0, 0, 0, 0, 0, 0, 0, 0, 0, 0, 0, 0, 0, 0, 0, 0, 0, 0, 0, 0, 0, 0, 0, 0, 0, 0, 0, 0, 0, 0, 0, 0, 0, 0, 0, 0, 0, 0, 0, 0, 0, 0, 0, 0, 0, 0, 0, 0, 0, 0, 0, 0, 0, 0, 0, 0, 0, 0, 0, 0, 0, 0, 0, 0, 0, 0, 0, 0, 0, 0, 0, 0, 0, 0, 0, 0, 0, 0, 0, 0, 0, 0, 0, 0, 0, 0, 0, 0, 0, 0, 0, 0, 0, 0, 0, 0, 0, 0, 0, 0, 0, 0, 0, 0, 0, 0, 0, 0, 0, 0, 0, 0, 0, 0, 0, 0, 0, 0, 0, 0, 0, 0, 0, 0, 0, 0, 0, 0, 0, 0, 0, 0, 0, 0, 0, 0, 0, 0, 0, 0, 0, 0, 0, 0, 0, 0, 0, 0, 0, 0, 0, 0, 0, 0, 0, 0, 0, 0, 0, 0, 0, 0, 0, 0, 0, 0, 0, 0, 0, 0, 0, 0, 0, 0, 0, 0, 0, 0, 0, 0, 0, 0, 0, 0, 0, 0, 0, 0, 0, 0, 0, 0, 0, 0, 0, 0, 0, 0, 0, 0, 0, 0, 0, 0, 0, 0, 0, 0, 0, 0, 0, 0, 0, 0, 0, 0, 0, 0, 0, 0, 0, 0, 0, 0, 0, 0, 0, 0, 0, 0, 0, 0, 0, 0, 0, 0, 0, 0, 0, 0, 0, 0, 0, 0, 0, 0, 0, 0, 0, 0, 0, 0, 0, 0, 0, 0, 0, 0, 0, 0, 0, 0, 0, 0, 0, 0, 0, 0, 0, 0, 0, 0, 0, 0, 0, 0, 0, 0, 0, 0, 0, 0, 0, 0, 0, 0, 0, 0, 0, 0, 0, 0, 0, 0, 0, 0, 0, 0, 0, 0, 0, 0, 0, 0, 0, 0, 0, 0, 0, 0, 0, 0, 0, 0, 0, 0, 0, 0, 0, 0, 0, 0, 0, 0, 0, 0, 0, 0, 0, 0, (-100), 100, (-100), 100, (-100), 100, (-100), 100, 0, 0, 0, 0, 0, 0, 0, 0, 0, 0, 0, 0, 0, 0, 0, 0, 0, 0, 0, 0, 0, 0, 0, 0, 0, 0, 0, 0, 0, 0, 0, 0, 0, 0, 0, 0, 0, 0, 0, 0, 0, 0, 0, 0, 0, 0, 0, 0, 0, 0, 0, 0, 0, 0, 0, 0, 0, 0, 0, 0, 0, 0, 0, 0, 0, 0, 0, 0, 0, 0, 0, 0, 0, 0, 0, 0, 0, 0, 0, 0, 0, 0, 0, 0, 0, 0, 0, 0, 0, 0, 0, 0, 0, 0, 0, 0, 0, 0, 0, 0, 0, 0, 0, 0, 0, 0, 0, 0, 0, 0, 0, 0, 0, 0, 0, 0, 0, 0].set 10 x1).set 11 x2)))), 0, 0)) rfl ?_
            exact Ex.ret rfl rfl) (by decide)
set_option maxHeartbeats 8000000 in
set_option maxRecDepth 100000 in
theorem both_air (x1 x2 x3 : Int32) : BothI 29 156 [.int x1, .int x2, .int x3] := by
  by_cases h1 : (x1 : Int32) < 1
  ·
    exact mkI (x := (-2)) (c1 := 0) (s1 := 0) (c2 := 0) (s2 := 0) (by
      refine Rn.of (me := me29) rfl ⟨Nat.le_of_ble_eq_true rfl, rfl⟩ rfl ?_
      refine Ex.steps 3 (S' := (5, [.int 1000, .int 1, .int x1], [(0, .ref 0), (1, .int x1), (2, .int x2), (3, .int x3)], hX, 0, 0)) rfl ?_
      refine Ex.call0 (as := [.int x1, .int 1, .int 1000]) (rest := []) (r := (some (.int 0))) (c1 := 0) (s1 := 0) rfl rfl rfl rfl (by
        refine Rn.of (me := me12) rfl ⟨Nat.le_of_ble_eq_true rfl, rfl⟩ rfl ?_
        refine Ex.steps 2 (S' := (2, [.int 1, .int x1], [(0, .int x1), (1, .int 1), (2, .int 1000)], [], 0, 0)) rfl ?_
        refine Ex.icmp rfl (cT_lt h1) rfl ?_
        refine Ex.steps 1 (S' := (15, [.int 0], [(0, .int x1), (1, .int 1), (2, .int 1000)], [], 0, 0)) rfl ?_
        exact Ex.ret rfl rfl) ?_
      refine Ex.steps 2 (S' := (23, [.int (-2)], [(0, .ref 0), (1, .int x1), (2, .int x2), (3, .int x3)], hX, 0, 0)) rfl ?_
      exact Ex.ret rfl rfl) (by
      refine Rn.of (me := me156) rfl ⟨Nat.le_of_ble_eq_true rfl, rfl⟩ rfl ?_
      refine Ex.steps 3 (S' := (5, [.int 1000, .int 1, .int x1], [(0, .ref 0), (1, .int x1), (2, .int x2), (3, .int x3)], hM, 0, 0)) rfl ?_
      refine Ex.call0 (as := [.int x1, .int 1, .int 1000]) (rest := []) (r := (some (.int 0))) (c1 := 0) (s1 := 0) rfl rfl rfl rfl (by
        refine Rn.of (me := me145) rfl ⟨Nat.le_of_ble_eq_true rfl, rfl⟩ rfl ?_
        refine Ex.steps 2 (S' := (2, [.int 1, .int x1], [(0, .int x1), (1, .int 1), (2, .int 1000)], [], 0, 0)) rfl ?_
        refine Ex.icmp rfl (cT_lt h1) rfl ?_
        refine Ex.steps 1 (S' := (15, [.int 0], [(0, .int x1), (1, .int 1), (2, .int 1000)], [], 0, 0)) rfl ?_
        exact Ex.ret rfl rfl) ?_
      refine Ex.steps 2 (S' := (23, [.int (-2)], [(0, .ref 0), (1, .int x1), (2, .int x2), (3, .int x3)], hM, 0, 0)) rfl ?_
      exact Ex.ret rfl rfl) (by decide)
  ·
    by_cases h2 : (1000 : Int32) < x1
    ·
      exact mkI (x := (-2)) (c1 := 0) (s1 := 0) (c2 := 0) (s2 := 0) (by
        refine Rn.of (me := me29) rfl ⟨Nat.le_of_ble_eq_true rfl, rfl⟩ rfl ?_
        refine Ex.steps 3 (S' := (5, [.int 1000, .int 1, .int x1], [(0, .ref 0), (1, .int x1), (2, .int x2), (3, .int x3)], hX, 0, 0)) rfl ?_
        refine Ex.call0 (as := [.int x1, .int 1, .int 1000]) (rest := []) (r := (some (.int 0))) (c1 := 0) (s1 := 0) rfl rfl rfl rfl (by
          refine Rn.of (me := me12) rfl ⟨Nat.le_of_ble_eq_true rfl, rfl⟩ rfl ?_
          refine Ex.steps 2 (S' := (2, [.int 1, .int x1], [(0, .int x1), (1, .int 1), (2, .int 1000)], [], 0, 0)) rfl ?_
          refine Ex.icmp rfl (cF_lt h1) rfl ?_
          refine Ex.steps 2 (S' := (7, [.int 1000, .int x1], [(0, .int x1), (1, .int 1), (2, .int 1000)], [], 0, 0)) rfl ?_
          refine Ex.icmp rfl (cT_gt h2) rfl ?_
          refine Ex.steps 1 (S' := (15, [.int 0], [(0, .int x1), (1, .int 1), (2, .int 1000)], [], 0, 0)) rfl ?_
          exact Ex.ret rfl rfl) ?_
        refine Ex.steps 2 (S' := (23, [.int (-2)], [(0, .ref 0), (1, .int x1), (2, .int x2), (3, .int x3)], hX, 0, 0)) rfl ?_
        exact Ex.ret rfl rfl) (by
        refine Rn.of (me := me156) rfl ⟨Nat.le_of_ble_eq_true rfl, rfl⟩ rfl ?_
        refine Ex.steps 3 (S' := (5, [.int 1000, .int 1, .int x1], [(0, .ref 0), (1, .int x1), (2, .int x2), (3, .int x3)], hM, 0, 0)) rfl ?_
        refine Ex.call0 (as := [.int x1, .int 1, .int 1000]) (rest := []) (r := (some (.int 0))) (c1 := 0) (s1 := 0) rfl rfl rfl rfl (by
          refine Rn.of (me := me145) rfl ⟨Nat.le_of_ble_eq_true rfl, rfl⟩ rfl ?_
          refine Ex.steps 2 (S' := (2, [.int 1, .int x1], [(0, .int x1), (1, .int 1), (2, .int 1000)], [], 0, 0)) rfl ?_
          refine Ex.icmp rfl (cF_lt h1) rfl ?_
          refine Ex.steps 2 (S' := (7, [.int 1000, .int x1], [(0, .int x1), (1, .int 1), (2, .int 1000)], [], 0, 0)) rfl ?_
          refine Ex.icmp rfl (cT_gt h2) rfl ?_
          refine Ex.steps 1 (S' := (15, [.int 0], [(0, .int x1), (1, .int 1), (2, .int 1000)], [], 0, 0)) rfl ?_
          exact Ex.ret rfl rfl) ?_
        refine Ex.steps 2 (S' := (23, [.int (-2)], [(0, .ref 0), (1, .int x1), (2, .int x2), (3, .int x3)], hM, 0, 0)) rfl ?_
        exact Ex.ret rfl rfl) (by decide)
    ·
      by_cases h3 : (x2 : Int32) < 0
      ·
        exact mkI (x := (-2)) (c1 := 0) (s1 := 0) (c2 := 0) (s2 := 0) (by
          refine Rn.of (me := me29) rfl ⟨Nat.le_of_ble_eq_true rfl, rfl⟩ rfl ?_
          refine Ex.steps 3 (S' := (5, [.int 1000, .int 1, .int x1], [(0, .ref 0), (1, .int x1), (2, .int x2), (3, .int x3)], hX, 0, 0)) rfl ?_
          refine Ex.call0 (as := [.int x1, .int 1, .int 1000]) (rest := []) (r := (some (.int 1))) (c1 := 0) (s1 := 0) rfl rfl rfl rfl (by
            refine Rn.of (me := me12) rfl ⟨Nat.le_of_ble_eq_true rfl, rfl⟩ rfl ?_
            refine Ex.steps 2 (S' := (2, [.int 1, .int x1], [(0, .int x1), (1, .int 1), (2, .int 1000)], [], 0, 0)) rfl ?_
            refine Ex.icmp rfl (cF_lt h1) rfl ?_
            refine Ex.steps 2 (S' := (7, [.int 1000, .int x1], [(0, .int x1), (1, .int 1), (2, .int 1000)], [], 0, 0)) rfl ?_
            refine Ex.icmp rfl (cF_gt h2) rfl ?_
            refine Ex.steps 2 (S' := (15, [.int 1], [(0, .int x1), (1, .int 1), (2, .int 1000)], [], 0, 0)) rfl ?_
            exact Ex.ret rfl rfl) ?_
          refine Ex.steps 4 (S' := (15, [.int 50, .int 0, .int x2], [(0, .ref 0), (1, .int x1), (2, .int x2), (3, .int x3)], hX, 0, 0)) rfl ?_
          refine Ex.call0 (as := [.int x2, .int 0, .int 50]) (rest := []) (r := (some (.int 0))) (c1 := 0) (s1 := 0) rfl rfl rfl rfl (by
            refine Rn.of (me := me12) rfl ⟨Nat.le_of_ble_eq_true rfl, rfl⟩ rfl ?_
            refine Ex.steps 2 (S' := (2, [.int 0, .int x2], [(0, .int x2), (1, .int 0), (2, .int 50)], [], 0, 0)) rfl ?_
            refine Ex.icmp rfl (cT_lt h3) rfl ?_
            refine Ex.steps 1 (S' := (15, [.int 0], [(0, .int x2), (1, .int 0), (2, .int 50)], [], 0, 0)) rfl ?_
            exact Ex.ret rfl rfl) ?_
          refine Ex.steps 2 (S' := (23, [.int (-2)], [(0, .ref 0), (1, .int x1), (2, .int x2), (3, .int x3)], hX, 0, 0)) rfl ?_
          exact Ex.ret rfl rfl) (by
          refine Rn.of (me := me156) rfl ⟨Nat.le_of_ble_eq_true rfl, rfl⟩ rfl ?_
          refine Ex.steps 3 (S' := (5, [.int 1000, .int 1, .int x1], [(0, .ref 0), (1, .int x1), (2, .int x2), (3, .int x3)], hM, 0, 0)) rfl ?_
          refine Ex.call0 (as := [.int x1, .int 1, .int 1000]) (rest := []) (r := (some (.int 1))) (c1 := 0) (s1 := 0) rfl rfl rfl rfl (by
            refine Rn.of (me := me145) rfl ⟨Nat.le_of_ble_eq_true rfl, rfl⟩ rfl ?_
            refine Ex.steps 2 (S' := (2, [.int 1, .int x1], [(0, .int x1), (1, .int 1), (2, .int 1000)], [], 0, 0)) rfl ?_
            refine Ex.icmp rfl (cF_lt h1) rfl ?_
            refine Ex.steps 2 (S' := (7, [.int 1000, .int x1], [(0, .int x1), (1, .int 1), (2, .int 1000)], [], 0, 0)) rfl ?_
            refine Ex.icmp rfl (cF_gt h2) rfl ?_
            refine Ex.steps 2 (S' := (15, [.int 1], [(0, .int x1), (1, .int 1), (2, .int 1000)], [], 0, 0)) rfl ?_
            exact Ex.ret rfl rfl) ?_
          refine Ex.steps 4 (S' := (15, [.int 50, .int 0, .int x2], [(0, .ref 0), (1, .int x1), (2, .int x2), (3, .int x3)], hM, 0, 0)) rfl ?_
          refine Ex.call0 (as := [.int x2, .int 0, .int 50]) (rest := []) (r := (some (.int 0))) (c1 := 0) (s1 := 0) rfl rfl rfl rfl (by
            refine Rn.of (me := me145) rfl ⟨Nat.le_of_ble_eq_true rfl, rfl⟩ rfl ?_
            refine Ex.steps 2 (S' := (2, [.int 0, .int x2], [(0, .int x2), (1, .int 0), (2, .int 50)], [], 0, 0)) rfl ?_
            refine Ex.icmp rfl (cT_lt h3) rfl ?_
            refine Ex.steps 1 (S' := (15, [.int 0], [(0, .int x2), (1, .int 0), (2, .int 50)], [], 0, 0)) rfl ?_
            exact Ex.ret rfl rfl) ?_
          refine Ex.steps 2 (S' := (23, [.int (-2)], [(0, .ref 0), (1, .int x1), (2, .int x2), (3, .int x3)], hM, 0, 0)) rfl ?_
          exact Ex.ret rfl rfl) (by decide)
      ·
        by_cases h4 : (50 : Int32) < x2
        ·
          exact mkI (x := (-2)) (c1 := 0) (s1 := 0) (c2 := 0) (s2 := 0) (by
            refine Rn.of (me := me29) rfl ⟨Nat.le_of_ble_eq_true rfl, rfl⟩ rfl ?_
            refine Ex.steps 3 (S' := (5, [.int 1000, .int 1, .int x1], [(0, .ref 0), (1, .int x1), (2, .int x2), (3, .int x3)], hX, 0, 0)) rfl ?_
            refine Ex.call0 (as := [.int x1, .int 1, .int 1000]) (rest := []) (r := (some (.int 1))) (c1 := 0) (s1 := 0) rfl rfl rfl rfl (by
              refine Rn.of (me := me12) rfl ⟨Nat.le_of_ble_eq_true rfl, rfl⟩ rfl ?_
              refine Ex.steps 2 (S' := (2, [.int 1, .int x1], [(0, .int x1), (1, .int 1), (2, .int 1000)], [], 0, 0)) rfl ?_
              refine Ex.icmp rfl (cF_lt h1) rfl ?_
              refine Ex.steps 2 (S' := (7, [.int 1000, .int x1], [(0, .int x1), (1, .int 1), (2, .int 1000)], [], 0, 0)) rfl ?_
              refine Ex.icmp rfl (cF_gt h2) rfl ?_
              refine Ex.steps 2 (S' := (15, [.int 1], [(0, .int x1), (1, .int 1), (2, .int 1000)], [], 0, 0)) rfl ?_
              exact Ex.ret rfl rfl) ?_
            refine Ex.steps 4 (S' := (15, [.int 50, .int 0, .int x2], [(0, .ref 0), (1, .int x1), (2, .int x2), (3, .int x3)], hX, 0, 0)) rfl ?_
            refine Ex.call0 (as := [.int x2, .int 0, .int 50]) (rest := []) (r := (some (.int 0))) (c1 := 0) (s1 := 0) rfl rfl rfl rfl (by
              refine Rn.of (me := me12) rfl ⟨Nat.le_of_ble_eq_true rfl, rfl⟩ rfl ?_
              refine Ex.steps 2 (S' := (2, [.int 0, .int x2], [(0, .int x2), (1, .int 0), (2, .int 50)], [], 0, 0)) rfl ?_
              refine Ex.icmp rfl (cF_lt h3) rfl ?_
              refine Ex.steps 2 (S' := (7, [.int 50, .int x2], [(0, .int x2), (1, .int 0), (2, .int 50)], [], 0, 0)) rfl ?_
              refine Ex.icmp rfl (cT_gt h4) rfl ?_
              refine Ex.steps 1 (S' := (15, [.int 0], [(0, .int x2), (1, .int 0), (2, .int 50)], [], 0, 0)) rfl ?_
              exact Ex.ret rfl rfl) ?_
            refine Ex.steps 2 (S' := (23, [.int (-2)], [(0, .ref 0), (1, .int x1), (2, .int x2), (3, .int x3)], hX, 0, 0)) rfl ?_
            exact Ex.ret rfl rfl) (by
            refine Rn.of (me := me156) rfl ⟨Nat.le_of_ble_eq_true rfl, rfl⟩ rfl ?_
            refine Ex.steps 3 (S' := (5, [.int 1000, .int 1, .int x1], [(0, .ref 0), (1, .int x1), (2, .int x2), (3, .int x3)], hM, 0, 0)) rfl ?_
            refine Ex.call0 (as := [.int x1, .int 1, .int 1000]) (rest := []) (r := (some (.int 1))) (c1 := 0) (s1 := 0) rfl rfl rfl rfl (by
              refine Rn.of (me := me145) rfl ⟨Nat.le_of_ble_eq_true rfl, rfl⟩ rfl ?_
              refine Ex.steps 2 (S' := (2, [.int 1, .int x1], [(0, .int x1), (1, .int 1), (2, .int 1000)], [], 0, 0)) rfl ?_
              refine Ex.icmp rfl (cF_lt h1) rfl ?_
              refine Ex.steps 2 (S' := (7, [.int 1000, .int x1], [(0, .int x1), (1, .int 1), (2, .int 1000)], [], 0, 0)) rfl ?_
              refine Ex.icmp rfl (cF_gt h2) rfl ?_
              refine Ex.steps 2 (S' := (15, [.int 1], [(0, .int x1), (1, .int 1), (2, .int 1000)], [], 0, 0)) rfl ?_
              exact Ex.ret rfl rfl) ?_
            refine Ex.steps 4 (S' := (15, [.int 50, .int 0, .int x2], [(0, .ref 0), (1, .int x1), (2, .int x2), (3, .int x3)], hM, 0, 0)) rfl ?_
            refine Ex.call0 (as := [.int x2, .int 0, .int 50]) (rest := []) (r := (some (.int 0))) (c1 := 0) (s1 := 0) rfl rfl rfl rfl (by
              refine Rn.of (me := me145) rfl ⟨Nat.le_of_ble_eq_true rfl, rfl⟩ rfl ?_
              refine Ex.steps 2 (S' := (2, [.int 0, .int x2], [(0, .int x2), (1, .int 0), (2, .int 50)], [], 0, 0)) rfl ?_
              refine Ex.icmp rfl (cF_lt h3) rfl ?_
              refine Ex.steps 2 (S' := (7, [.int 50, .int x2], [(0, .int x2), (1, .int 0), (2, .int 50)], [], 0, 0)) rfl ?_
              refine Ex.icmp rfl (cT_gt h4) rfl ?_
              refine Ex.steps 1 (S' := (15, [.int 0], [(0, .int x2), (1, .int 0), (2, .int 50)], [], 0, 0)) rfl ?_
              exact Ex.ret rfl rfl) ?_
            refine Ex.steps 2 (S' := (23, [.int (-2)], [(0, .ref 0), (1, .int x1), (2, .int x2), (3, .int x3)], hM, 0, 0)) rfl ?_
            exact Ex.ret rfl rfl) (by decide)
        ·
          exact mkI (x := 1) (c1 := 0) (s1 := 0) (c2 := 0) (s2 := 0) (by
            refine Rn.of (me := me29) rfl ⟨Nat.le_of_ble_eq_true rfl, rfl⟩ rfl ?_
            refine Ex.steps 3 (S' := (5, [.int 1000, .int 1, .int x1], [(0, .ref 0), (1, .int x1), (2, .int x2), (3, .int x3)], hX, 0, 0)) rfl ?_
            refine Ex.call0 (as := [.int x1, .int 1, .int 1000]) (rest := []) (r := (some (.int 1))) (c1 := 0) (s1 := 0) rfl rfl rfl rfl (by
              refine Rn.of (me := me12) rfl ⟨Nat.le_of_ble_eq_true rfl, rfl⟩ rfl ?_
              refine Ex.steps 2 (S' := (2, [.int 1, .int x1], [(0, .int x1), (1, .int 1), (2, .int 1000)], [], 0, 0)) rfl ?_
              refine Ex.icmp rfl (cF_lt h1) rfl ?_
              refine Ex.steps 2 (S' := (7, [.int 1000, .int x1], [(0, .int x1), (1, .int 1), (2, .int 1000)], [], 0, 0)) rfl ?_
              refine Ex.icmp rfl (cF_gt h2) rfl ?_
              refine Ex.steps 2 (S' := (15, [.int 1], [(0, .int x1), (1, .int 1), (2, .int 1000)], [], 0, 0)) rfl ?_
              exact Ex.ret rfl rfl) ?_
            refine Ex.steps 4 (S' := (15, [.int 50, .int 0, .int x2], [(0, .ref 0), (1, .int x1), (2, .int x2), (3, .int x3)], hX, 0, 0)) rfl ?_
            refine Ex.call0 (as := [.int x2, .int 0, .int 50]) (rest := []) (r := (some (.int 1))) (c1 := 0) (s1 := 0) rfl rfl rfl rfl (by
              refine Rn.of (me := me12) rfl ⟨Nat.le_of_ble_eq_true rfl, rfl⟩ rfl ?_
              refine Ex.steps 2 (S' := (2, [.int 0, .int x2], [(0, .int x2), (1, .int 0), (2, .int 50)], [], 0, 0)) rfl ?_
              refine Ex.icmp rfl (cF_lt h3) rfl ?_
              refine Ex.steps 2 (S' := (7, [.int 50, .int x2], [(0, .int x2), (1, .int 0), (2, .int 50)], [], 0, 0)) rfl ?_
              refine Ex.icmp rfl (cF_gt h4) rfl ?_
              refine Ex.steps 2 (S' := (15, [.int 1], [(0, .int x2), (1, .int 0), (2, .int 50)], [], 0, 0)) rfl ?_
              exact Ex.ret rfl rfl) ?_
            refine Ex.steps 14 (S' := (49, [.int 1], [(0, .ref 0), (1, .int x1), (2, .int x2), (3, .int x3)], (((hX.set 1 (.inl (1, [.int 3, .ref 2, .ref 13, .ref 19, .ref 20, .int 3, .int 5, .ref 21, .int x1, .int 0, .ref 26, .ref 27, .ref 28, .ref 32, .int 0, .ref 38, .ref 39, .ref 40]))).set 1 (.inl (1, [.int 3, .ref 2, .ref 13, .ref 19, .ref 20, .int 3, .int 5, .ref 21, .int x1, .int x2, .ref 26, .ref 27, .ref 28, .ref 32, .int 0, .ref 38, .ref 39, .ref 40]))).set 41 (.inl (7, [.ref 42, .int 7, .ref 51, .ref 55, .ref 56, .int 0, .int 0, .int 0, .int x3, .int 0, .int 0, .int 0, .int 0, .int 0, .int 0, .int 0, .int (-1)]))), 0, 0)) rfl ?_
            exact Ex.ret rfl rfl) (by
            refine Rn.of (me := me156) rfl ⟨Nat.le_of_ble_eq_true rfl, rfl⟩ rfl ?_
            refine Ex.steps 3 (S' := (5, [.int 1000, .int 1, .int x1], [(0, .ref 0), (1, .int x1), (2, .int x2), (3, .int x3)], hM, 0, 0)) rfl ?_
            refine Ex.call0 (as := [.int x1, .int 1, .int 1000]) (rest := []) (r := (some (.int 1))) (c1 := 0) (s1 := 0) rfl rfl rfl rfl (by
              refine Rn.of (me := me145) rfl ⟨Nat.le_of_ble_eq_true rfl, rfl⟩ rfl ?_
              refine Ex.steps 2 (S' := (2, [.int 1, .int x1], [(0, .int x1), (1, .int 1), (2, .int 1000)], [], 0, 0)) rfl ?_
              refine Ex.icmp rfl (cF_lt h1) rfl ?_
              refine Ex.steps 2 (S' := (7, [.int 1000, .int x1], [(0, .int x1), (1, .int 1), (2, .int 1000)], [], 0, 0)) rfl ?_
              refine Ex.icmp rfl (cF_gt h2) rfl ?_
              refine Ex.steps 2 (S' := (15, [.int 1], [(0, .int x1), (1, .int 1), (2, .int 1000)], [], 0, 0)) rfl ?_
              exact Ex.ret rfl rfl) ?_
            refine Ex.steps 4 (S' := (15, [.int 50, .int 0, .int x2], [(0, .ref 0), (1, .int x1), (2, .int x2), (3, .int x3)], hM, 0, 0)) rfl ?_
            refine Ex.call0 (as := [.int x2, .int 0, .int 50]) (rest := []) (r := (some (.int 1))) (c1 := 0) (s1 := 0) rfl rfl rfl rfl (by
              refine Rn.of (me := me145) rfl ⟨Nat.le_of_ble_eq_true rfl, rfl⟩ rfl ?_
              refine Ex.steps 2 (S' := (2, [.int 0, .int x2], [(0, .int x2), (1, .int 0), (2, .int 50)], [], 0, 0)) rfl ?_
              refine Ex.icmp rfl (cF_lt h3) rfl ?_
              refine Ex.steps 2 (S' := (7, [.int 50, .int x2], [(0, .int x2), (1, .int 0), (2, .int 50)], [], 0, 0)) rfl ?_
              refine Ex.icmp rfl (cF_gt h4) rfl ?_
              refine Ex.steps 2 (S' := (15, [.int 1], [(0, .int x2), (1, .int 0), (2, .int 50)], [], 0, 0)) rfl ?_
              exact Ex.ret rfl rfl) ?_
            refine Ex.steps 17 (S' := (49, [.int 1], [(0, .ref 0), (1, .int x1), (2, .int x2), (3, .int x3)], (((hM.set 1 (.inr (0, .inl ([3, 0, 0, 0, 0, 0, 0, 0, 3, 5, 0, 0, 0, 0, 0, 0, 0, 100, 0, 0, (-1), 0, 0, 0, 0, 0, 0, 0, 0, 0, 0, 0, 0, 0, 0, 0, 0, 0, 0, 0, 0, 0, 1, 0, 0, 0, 0, 0, 0, 0, 0, 0, 0, 0, 0, 0, 0, 0, 0, 0, 0, 0, 0, 0, 0, 0, 0, 0, 0, 0, 0, 0, 0, 0, 0, 0, 0, 0, 0, 0, 0, 0, 1, 0, 0, 0, 0, 0, 0, 0, 0, 0, 0, 0, 0, 0, 0, 0, 0, 0, 0, 0, 0, 0, 0, 0, 0, 0, 0, 0, 0, 0, 0, 0, 0, 0, 0, 0, 0, 0, 0, 0, 1, 0, 0, 0, 0, 0, 0, 0, 0, 0, 0, 0, 0, 0, 0, 0, 0, 0, 0, 0, 0, 0, 0, 0, 0, 0, 0, 0, 0, 0, 0, 0, 0, 0, 0, 0, 0, 0, 0, 0, 1, 0, 0, 0, 0, 0, 0, 0, 0, 0, 0, 0, 0, 0, 0, 0, 0, 0, 0, 0, 0, 0, 0, 0, 0, 0, 0, 0, 0, 0, 0, 0, 0, 0, 0, 0, 0, 0, 0, 0, 0, 0, 0, 0, 0, 0, 0, 0, 0, 0, 0, 0, 0, 0, 0, 0, 0, 0, 0, 0, 0, 0, 0, 0, 0, 0, 0, 0, 0, 0, 0, 0, 0, 0, 0, 0, 0, 0, 0, 0, 0, 0, 0, 0, 0, 0, 0, 0, 0, 0, 0, 0, 0, 0, 0, 0, 0, 0, 0, 0, 0, 0, 0, 0, 0, 0, 0, 0, 0, 0, 0, 0, 0, 0, 0, 0, 0, 0, 0, 0, 0, 0, 0, 0, 0, 0, 0, 0, 0, 0, 0, 0, 0, 0, 0, 0, 0, 0, 0, 0, 0, 0, 0, 0, 0, 0, 0, 0, 0, 0, 0, 0, 0, 0, 0, 0, 0, 0, 0, 0, 0, 0, 0, 0, 0, 0, 0, 0, 0, 0, 0, 0, 0, 0, 0, 0, 0, 0, 0, 0, 0, 0, 0, 0, 0, 0, 0, 0, 0, 0, 0, 0, 0, 0, 0, 0, 0, 0, 0, 0, 0, 0, 0, 0, 0, 0, 0, 0, 0, 0, 0, 0, 0, 0, 0, 0, 0, 0, 0, 0, 0, 0, 0, 0, 0, 0, 0, 0, 0, 0, 0, 0, 0, 0, 0, 0, 0, 0, 0, 0, 0, 0, 0, 0, 0, 0, 0, 0, 0, 0, 0, 0, 0, 0, 0, 0, 0, 0, 0, 0, 0, 0, 0, 0, 0, 0, 0, 0, 0, 0, 0, 0, 0, 0, 0, 0, 0, 0, 0, 0, 0, 0, 0, 0, 0, 0, 0, 0, 0, 0, 0, 0, 0, 0, 0, 0, 0, 0, 0, 0, 0, 0, 0, 0, 0, 0, 0, 0, 0, 0, 0, 0, 0, 0, 0, 0, 0, 0, 0, 0, 0, 0, 0, 0, 0, 0, 0, 0, 0, 0, 0, 0, 0, 0, 0, 0, 0, 0, 0, 0, 0, 0, 0, 0, 0, 0, 0, 0, 0, 0, 0, 0, 0, 0, 0, 0, 0, 0, 0, 0, 0, 0, 0, 0, 0, 0, 0, 0, 0, 0, 0, 0, 0, 0, 0, 0, 0, 0, 0, 0, 0, 0, 0, 0, 0, 0, 0, 0, 0, 0, 0, 0, 0, 0, 0, 0, 0, 0, 0, 0, 0, 0, 0, 0, 0, 0, 0, 0, 0, 0, 0, 0, 0, 0, 0, 0, 0, 0, 0, 0, 0, 0, 0, 0, 0, 0, 0, 0, 0, 0, 0, 0, 0, 0, 0, 0, 0, 0, 0, 0, 0, 0, 0, 0, 0, 0, 0, 0, 0, 0, 0, 0, 0, 0, 0, 0, 0, 0, 0, 0, 0, 0, 0, 0, 0, 0, 0, 0, 0, 0, 0, 0, 0, 0, 0, 0, 0, 0, 0, 0, 0, 0, 0, 0, 0, 0, 0, 0, 0, 0, 0, 0, 0, 0, 0, 0, 0, 0, 0, 0, 0, 0, 0, 0, 0, 0, 0, 0, 0, 0, 0, 0, 0, 0, 0, 0, 0, 0, 0, 0, 0, 0, 0, 0, 0, 0, 0, 0, 0, 0, 0, 0, 0, 0, 0, 0, 0, 0, 0, 0, 0, 0, 0, 0, 0, 0, 0, 0, 0, 0, 0, 0, 0, 0, 0, 0, 0, 0, 0, 0, 0, 0, 0, 0, 0, 0, 0, 0, 0, 0, 0, 0, 0, 0, 0, 0, 0, 0, 0, 0, 0, 0, 0, 0, 0, 0, 0, 0, 0, 0, 0, 0, 0, 0, 0, 0, 0, 0, 0, 0, 0, 0, 0, 0, 0, 0, 0, 0, 0, 0, 0, 0, 0, 0, 0, 0, 0, 0, 0, 0, 0, 0, (-100), 100, (-100), 100, (-100), 100, (-100), 100, 0, 0, 0, 0, 0, 0, 0, 0, 0, 0, 0, 0, 0, 0, 0, 0, 0, 0, 0, 0, 0, 0, 0, 0, 0, 0, 0, 0, 0, 0, 0, 0, 0, 0, 0, 0, 0, 0, 0, 0, 0, 0, 0, 0, 0, 0, 0, 0, 0, 0, 0, 0, 0, 0, 0, 0, 0, 0, 0, 0, 0, 0, 0, 0, 0, 0, 0, 0, 0, 0, 0, 0, 0, 0, 0, 0, 0, 0, 0, 0, 0, 0, 0, 0, 0, 0, 0, 0, 0, 0, 0, 0, 0, 0, 0, 0, 0, 0, 0, 0, 0, 0, 0, 0, 0, 0, 0, 0, 0, 0, 0, 0, 0, 0, 0, 0, 0, 0].set 17 x1)))).set 1 (.inr (0, .inl (([3, 0, 0, 0, 0, 0, 0, 0, 3, 5, 0, 0, 0, 0, 0, 0, 0, 100, 0, 0, (-1), 0, 0, 0, 0, 0, 0, 0, 0, 0, 0, 0, 0, 0, 0, 0, 0, 0, 0, 0, 0, 0, 1, 0, 0, 0, 0, 0, 0, 0, 0, 0, 0, 0, 0, 0, 0, 0, 0, 0, 0, 0, 0, 0, 0, 0, 0, 0, 0, 0, 0, 0, 0, 0, 0, 0, 0, 0, 0, 0, 0, 0, 1, 0, 0, 0, 0, 0, 0, 0, 0, 0, 0, 0, 0, 0, 0, 0, 0, 0, 0, 0, 0, 0, 0, 0, 0, 0, 0, 0, 0, 0, 0, 0, 0, 0, 0, 0, 0, 0, 0, 0, 1, 0, 0, 0, 0, 0, 0, 0, 0, 0, 0, 0, 0, 0, 0, 0, 0, 0, 0, 0, 0, 0, 0, 0, 0, 0, 0, 0, 0, 0, 0, 0, 0, 0, 0, 0, 0, 0, 0, 0, 1, 0, 0, 0, 0, 0, 0, 0, 0, 0, 0, 0, 0, 0, 0, 0, 0, 0, 0, 0, 0, 0, 0, 0, 0, 0, 0, 0, 0, 0, 0, 0, 0, 0, 0, 0, 0, 0, 0, 0, 0, 0, 0, 0, 0, 0, 0, 0, 0, 0, 0, 0, 0, 0, 0, 0, 0, 0, 0, 0, 0, 0, 0, 0, 0, 0, 0, 0, 0, 0, 0, 0, 0, 0, 0, 0, 0, 0, 0, 0, 0, 0, 0, 0, 0, 0, 0, 0, 0, 0, 0, 0, 0, 0, 0, 0, 0, 0, 0, 0, 0, 0, 0, 0, 0, 0, 0, 0, 0, 0, 0, 0, 0, 0, 0, 0, 0, 0, 0, 0, 0, 0, 0, 0, 0, 0, 0, 0, 0, 0, 0, 0, 0, 0, 0, 0, 0, 0, 0, 0, 0, 0, 0, 0, 0, 0, 0, 0, 0, 0, 0, 0, 0, 0, 0, 0, 0, 0, 0, 0, 0, 0, 0, 0, 0, 0, 0, 0, 0, 0, 0, 0, 0, 0, 0, 0, 0, 0, 0, 0, 0, 0, 0, 0, 0, 0, 0, 0, 0, 0, 0, 0, 0, 0, 0, 0, 0, 0, 0, 0, 0, 0, 0, 0, 0, 0, 0, 0, 0, 0, 0, 0, 0, 0, 0, 0, 0, 0, 0, 0, 0, 0, 0, 0, 0, 0, 0, 0, 0, 0, 0, 0, 0, 0, 0, 0, 0, 0, 0, 0, 0, 0, 0, 0, 0, 0, 0, 0, 0, 0, 0, 0, 0, 0, 0, 0, 0, 0, 0, 0, 0, 0, 0, 0, 0, 0, 0, 0, 0, 0, 0, 0, 0, 0, 0, 0, 0, 0, 0, 0, 0, 0, 0, 0, 0, 0, 0, 0, 0, 0, 0, 0, 0, 0, 0, 0, 0, 0, 0, 0, 0, 0, 0, 0, 0, 0, 0, 0, 0, 0, 0, 0, 0, 0, 0, 0, 0, 0, 0, 0, 0, 0, 0, 0, 0, 0, 0, 0, 0, 0, 0, 0, 0, 0, 0, 0, 0, 0, 0, 0, 0, 0, 0, 0, 0, 0, 0, 0, 0, 0, 0, 0, 0, 0, 0, 0, 0, 0, 0, 0, 0, 0, 0, 0, 0, 0, 0, 0, 0, 0, 0, 0, 0, 0, 0, 0, 0, 0, 0, 0, 0, 0, 0, 0, 0, 0, 0, 0, 0, 0, 0, 0, 0, 0, 0, 0, 0, 0, 0, 0, 0, 0, 0, 0, 0, 0, 0, 0, 0, 0, 0, 0, 0, 0, 0, 0, 0, 0, 0, 0, 0, 0, 0, 0, 0, 0, 0, 0, 0, 0, 0, 0, 0, 0, 0, 0, 0, 0, 0, 0, 0, 0, 0, 0, 0, 0, 0, 0, 0, 0, 0, 0, 0, 0, 0, 0, 0, 0, 0, 0, 0, 0, 0, 0, 0, 0, 0, 0, 0, 0, 0, 0, 0, 0, 0, 0, 0, 0, 0, 0, 0, 0, 0, 0, 0, 0, 0, 0, 0, 0, 0, 0, 0, 0, 0, 0, 0, 0, 0, 0, 0, 0, 0, 0, 0, 0, 0, 0, 0, 0, 0, 0, 0, 0, 0, 0, 0, 0, 0, 0, 0, 0, 0, 0, 0, 0, 0, 0, 0, 0, 0, 0, 0, 0, 0, 0, 0, 0, 0, 0, 0, 0, 0, 0, 0, 0, 0, 0, 0, 0, 0, 0, 0, 0, 0, 0, 0, 0, 0, 0, 0, 0, 0, 0, 0, 0, 0, 0, 0, 0, 0, 0, 0, 0, 0, 0, 0, 0, 0, 0, 0, 0, 0, 0, 0, 0, 0, 0, 0, 0, 0, 0, 0, 0, 0, 0, 0, 0, 0, 0, 0, 0, 0, 0, 0, 0, 0, 0, 0, 0, 0, 0, 0, 0, 0, 0, 0, 0, 0, 0, 0, 0, (-100), 100, (-100), 100, (-100), 100, (-100), 100, 0, 0, 0, 0, 0, 0, 0, 0, 0, 0, 0, 0, 0, 0, 0, 0, 0, 0, 0, 0, 0, 0, 0, 0, 0, 0, 0, 0, 0, 0, 0, 0, 0, 0, 0, 0, 0, 0, 0, 0, 0, 0, 0, 0, 0, 0, 0, 0, 0, 0, 0, 0, 0, 0, 0, 0, 0, 0, 0, 0, 0, 0, 0, 0, 0, 0, 0, 0, 0, 0, 0, 0, 0, 0, 0, 0, 0, 0, 0, 0, 0, 0, 0, 0, 0, 0, 0, 0, 0, 0, 0, 0, 0, 0, 0, 0, 0, 0, 0, 0, 0, 0, 0, 0, 0, 0, 0, 0, 0, 0, 0, 0, 0, 0, 0, 0, 0, 0].set 17 x1).set 18 x2)))).set 1 (.inr (0, .inl ((([3, 0, 0, 0, 0, 0, 0, 0, 3, 5, 0, 0, 0, 0, 0, 0, 0, 100, 0, 0, (-1), 0, 0, 0, 0, 0, 0, 0, 0, 0, 0, 0, 0, 0, 0, 0, 0, 0, 0, 0, 0, 0, 1, 0, 0, 0, 0, 0, 0, 0, 0, 0, 0, 0, 0, 0, 0, 0, 0, 0, 0, 0, 0, 0, 0, 0, 0, 0, 0, 0, 0, 0, 0, 0, 0, 0, 0, 0, 0, 0, 0, 0, 1, 0, 0, 0, 0, 0, 0, 0, 0, 0, 0, 0, 0, 0, 0, 0, 0, 0, 0, 0, 0, 0, 0, 0, 0, 0, 0, 0, 0, 0, 0, 0, 0, 0, 0, 0, 0, 0, 0, 0, 1, 0, 0, 0, 0, 0, 0, 0, 0, 0, 0, 0, 0, 0, 0, 0, 0, 0, 0, 0, 0, 0, 0, 0, 0, 0, 0, 0, 0, 0, 0, 0, 0, 0, 0, 0, 0, 0, 0, 0, 1, 0, 0, 0, 0, 0, 0, 0, 0, 0, 0, 0, 0, 0, 0, 0, 0, 0, 0, 0, 0, 0, 0, 0, 0, 0, 0, 0, 0, 0, 0, 0, 0, 0, 0, 0, 0, 0, 0, 0, 0, 0, 0, 0, 0, 0, 0, 0, 0, 0, 0, 0, 0, 0, 0, 0, 0, 0, 0, 0, 0, 0, 0, 0, 0, 0, 0, 0, 0, 0, 0, 0, 0, 0, 0, 0, 0, 0, 0, 0, 0, 0, 0, 0, 0, 0, 0, 0, 0, 0, 0, 0, 0, 0, 0, 0, 0, 0, 0, 0, 0, 0, 0, 0, 0, 0, 0, 0, 0, 0, 0, 0, 0, 0, 0, 0, 0, 0, 0, 0, 0, 0, 0, 0, 0, 0, 0, 0, 0, 0, 0, 0, 0, 0, 0, 0, 0, 0, 0, 0, 0, 0, 0, 0, 0, 0, 0, 0, 0, 0, 0, 0, 0, 0, 0, 0, 0, 0, 0, 0, 0, 0, 0, 0, 0, 0, 0, 0, 0, 0, 0, 0, 0, 0, 0, 0, 0, 0, 0, 0, 0, 0, 0, 0, 0, 0, 0, 0, 0, 0, 0, 0, 0, 0, 0, 0, 0, 0, 0, 0, 0, 0, 0, 0, 0, 0, 0, 0, 0, 0, 0, 0, 0, 0, 0, 0, 0, 0, 0, 0, 0, 0, 0, 0, 0, 0, 0, 0, 0, 0, 0, 0, 0, 0, 0, 0, 0, 0, 0, 0, 0, 0, 0, 0, 0, 0, 0, 0, 0, 0, 0, 0, 0, 0, 0, 0, 0, 0, 0, 0, 0, 0, 0, 0, 0, 0, 0, 0, 0, 0, 0, 0, 0, 0, 0, 0, 0, 0, 0, 0, 0, 0, 0, 0, 0, 0, 0, 0, 0, 0, 0, 0, 0, 0, 0, 0, 0, 0, 0, 0, 0, 0, 0, 0, 0, 0, 0, 0, 0, 0, 0, 0, 0, 0, 0, 0, 0, 0, 0, 0, 0, 0, 0, 0, 0, 0, 0, 0, 0, 0, 0, 0, 0, 0, 0, 0, 0, 0, 0, 0, 0, 0, 0, 0, 0, 0, 0, 0, 0, 0, 0, 0, 0, 0, 0, 0, 0, 0, 0, 0, 0, 0, 0, 0, 0, 0, 0, 0, 0, 0, 0, 0, 0, 0, 0, 0, 0, 0, 0, 0, 0, 0, 0, 0, 0, 0, 0, 0, 0, 0, 0, 0, 0, 0, 0, 0, 0, 0, 0, 0, 0, 0, 0, 0, 0, 0, 0, 0, 0, 0, 0, 0, 0, 0, 0, 0, 0, 0, 0, 0, 0, 0, 0, 0, 0, 0, 0, 0, 0, 0, 0, 0, 0, 0, 0, 0, 0, 0, 0, 0, 0, 0, 0, 0, 0, 0, 0, 0, 0, 0, 0, 0, 0, 0, 0, 0, 0, 0, 0, 0, 0, 0, 0, 0, 0, 0, 0, 0, 0, 0, 0, 0, 0, 0, 0, 0, 0, 0, 0, 0, 0, 0, 0, 0, 0, 0, 0, 0, 0, 0, 0, 0, 0, 0, 0, 0, 0, 0, 0, 0, 0, 0, 0, 0, 0, 0, 0, 0, 0, 0, 0, 0, 0, 0, 0, 0, 0, 0, 0, 0, 0, 0, 0, 0, 0, 0, 0, 0, 0, 0, 0, 0, 0, 0, 0, 0, 0, 0, 0, 0, 0, 0, 0, 0, 0, 0, 0, 0, 0, 0, 0, 0, 0, 0, 0, 0, 0, 0, 0, 0, 0, 0, 0, 0, 0, 0, 0, 0, 0, 0, 0, 0, 0, 0, 0, 0, 0, 0, 0, 0, 0, 0, 0, 0, 0, 0, 0, 0, 0, 0, 0, 0, 0, 0, 0, 0, 0, 0, 0, 0, 0, 0, 0, 0, 0, 0, 0, 0, 0, 0, 0, 0, 0, 0, 0, 0, 0, 0, 0, 0, 0, 0, (-100), 100, (-100), 100, (-100), 100, (-100), 100, 0, 0, 0, 0, 0, 0, 0, 0, 0, 0, 0, 0, 0, 0, 0, 0, 0, 0, 0, 0, 0, 0, 0, 0, 0, 0, 0, 0, 0, 0, 0, 0, 0, 0, 0, 0, 0, 0, 0, 0, 0, 0, 0, 0, 0, 0, 0, 0, 0, 0, 0, 0, 0, 0, 0, 0, 0, 0, 0, 0, 0, 0, 0, 0, 0, 0, 0, 0, 0, 0, 0, 0, 0, 0, 0, 0, 0, 0, 0, 0, 0, 0, 0, 0, 0, 0, 0, 0, 0, 0, 0, 0, 0, 0, 0, 0, 0, 0, 0, 0, 0, 0, 0, 0, 0, 0, 0, 0, 0, 0, 0, 0, 0, 0, 0, 0, 0, 0].set 17 x1).set 18 x2).set 19 x3)))), 0, 0)) rfl ?_
            exact Ex.ret rfl rfl) (by decide)
set_option maxHeartbeats 8000000 in
set_option maxRecDepth 100000 in
theorem both_erase : BothI 46 159 [] := by
  obtain ⟨hA, rA⟩ := closed (F := 278) (mi := 46) (as := [.ref 0]) (σ := hX) (v := .int 0) (c := 0) (s := 0) (by decide +kernel)
  obtain ⟨hB, rB⟩ := closed (F := 62) (mi := 159) (as := [.ref 0]) (σ := hM) (v := .int 0) (c := 0) (s := 0) (by decide +kernel)
  exact mkI rA rB (by decide)
set_option maxHeartbeats 8000000 in
set_option maxRecDepth 100000 in
theorem both_fault : BothI 48 160 [] := by
  obtain ⟨hA, rA⟩ := closed (F := 55) (mi := 48) (as := [.ref 0]) (σ := hX) (v := .int 1) (c := 0) (s := 0) (by decide +kernel)
  obtain ⟨hB, rB⟩ := closed (F := 88) (mi := 160) (as := [.ref 0]) (σ := hM) (v := .int 1) (c := 0) (s := 0) (by decide +kernel)
  exact mkI rA rB (by decide)
set_option maxHeartbeats 8000000 in
set_option maxRecDepth 100000 in
theorem both_sensed (x1 : Int32) : BothI 93 201 [.int x1] := by
  by_cases h1 : (x1 : Int32) < 0
  ·
    exact mkI (x := (-2000000000)) (c1 := 0) (s1 := 0) (c2 := 0) (s2 := 0) (by
      refine Rn.of (me := me93) rfl ⟨Nat.le_of_ble_eq_true rfl, rfl⟩ rfl ?_
      refine Ex.steps 3 (S' := (3, [.int 1, .int 0, .int x1], [(0, .ref 0), (1, .int x1)], hX, 0, 0)) rfl ?_
      refine Ex.call0 (as := [.int x1, .int 0, .int 1]) (rest := []) (r := (some (.int 0))) (c1 := 0) (s1 := 0) rfl rfl rfl rfl (by
        refine Rn.of (me := me12) rfl ⟨Nat.le_of_ble_eq_true rfl, rfl⟩ rfl ?_
        refine Ex.steps 2 (S' := (2, [.int 0, .int x1], [(0, .int x1), (1, .int 0), (2, .int 1)], [], 0, 0)) rfl ?_
        refine Ex.icmp rfl (cT_lt h1) rfl ?_
        refine Ex.steps 1 (S' := (15, [.int 0], [(0, .int x1), (1, .int 0), (2, .int 1)], [], 0, 0)) rfl ?_
        exact Ex.ret rfl rfl) ?_
      refine Ex.steps 2 (S' := (23, [.int (-2000000000)], [(0, .ref 0), (1, .int x1)], hX, 0, 0)) rfl ?_
      exact Ex.ret rfl rfl) (by
      refine Rn.of (me := me201) rfl ⟨Nat.le_of_ble_eq_true rfl, rfl⟩ rfl ?_
      refine Ex.steps 3 (S' := (3, [.int 1, .int 0, .int x1], [(0, .ref 0), (1, .int x1)], hM, 0, 0)) rfl ?_
      refine Ex.call0 (as := [.int x1, .int 0, .int 1]) (rest := []) (r := (some (.int 0))) (c1 := 0) (s1 := 0) rfl rfl rfl rfl (by
        refine Rn.of (me := me145) rfl ⟨Nat.le_of_ble_eq_true rfl, rfl⟩ rfl ?_
        refine Ex.steps 2 (S' := (2, [.int 0, .int x1], [(0, .int x1), (1, .int 0), (2, .int 1)], [], 0, 0)) rfl ?_
        refine Ex.icmp rfl (cT_lt h1) rfl ?_
        refine Ex.steps 1 (S' := (15, [.int 0], [(0, .int x1), (1, .int 0), (2, .int 1)], [], 0, 0)) rfl ?_
        exact Ex.ret rfl rfl) ?_
      refine Ex.steps 2 (S' := (23, [.int (-2000000000)], [(0, .ref 0), (1, .int x1)], hM, 0, 0)) rfl ?_
      exact Ex.ret rfl rfl) (by decide)
  ·
    by_cases h2 : (1 : Int32) < x1
    ·
      exact mkI (x := (-2000000000)) (c1 := 0) (s1 := 0) (c2 := 0) (s2 := 0) (by
        refine Rn.of (me := me93) rfl ⟨Nat.le_of_ble_eq_true rfl, rfl⟩ rfl ?_
        refine Ex.steps 3 (S' := (3, [.int 1, .int 0, .int x1], [(0, .ref 0), (1, .int x1)], hX, 0, 0)) rfl ?_
        refine Ex.call0 (as := [.int x1, .int 0, .int 1]) (rest := []) (r := (some (.int 0))) (c1 := 0) (s1 := 0) rfl rfl rfl rfl (by
          refine Rn.of (me := me12) rfl ⟨Nat.le_of_ble_eq_true rfl, rfl⟩ rfl ?_
          refine Ex.steps 2 (S' := (2, [.int 0, .int x1], [(0, .int x1), (1, .int 0), (2, .int 1)], [], 0, 0)) rfl ?_
          refine Ex.icmp rfl (cF_lt h1) rfl ?_
          refine Ex.steps 2 (S' := (7, [.int 1, .int x1], [(0, .int x1), (1, .int 0), (2, .int 1)], [], 0, 0)) rfl ?_
          refine Ex.icmp rfl (cT_gt h2) rfl ?_
          refine Ex.steps 1 (S' := (15, [.int 0], [(0, .int x1), (1, .int 0), (2, .int 1)], [], 0, 0)) rfl ?_
          exact Ex.ret rfl rfl) ?_
        refine Ex.steps 2 (S' := (23, [.int (-2000000000)], [(0, .ref 0), (1, .int x1)], hX, 0, 0)) rfl ?_
        exact Ex.ret rfl rfl) (by
        refine Rn.of (me := me201) rfl ⟨Nat.le_of_ble_eq_true rfl, rfl⟩ rfl ?_
        refine Ex.steps 3 (S' := (3, [.int 1, .int 0, .int x1], [(0, .ref 0), (1, .int x1)], hM, 0, 0)) rfl ?_
        refine Ex.call0 (as := [.int x1, .int 0, .int 1]) (rest := []) (r := (some (.int 0))) (c1 := 0) (s1 := 0) rfl rfl rfl rfl (by
          refine Rn.of (me := me145) rfl ⟨Nat.le_of_ble_eq_true rfl, rfl⟩ rfl ?_
          refine Ex.steps 2 (S' := (2, [.int 0, .int x1], [(0, .int x1), (1, .int 0), (2, .int 1)], [], 0, 0)) rfl ?_
          refine Ex.icmp rfl (cF_lt h1) rfl ?_
          refine Ex.steps 2 (S' := (7, [.int 1, .int x1], [(0, .int x1), (1, .int 0), (2, .int 1)], [], 0, 0)) rfl ?_
          refine Ex.icmp rfl (cT_gt h2) rfl ?_
          refine Ex.steps 1 (S' := (15, [.int 0], [(0, .int x1), (1, .int 0), (2, .int 1)], [], 0, 0)) rfl ?_
          exact Ex.ret rfl rfl) ?_
        refine Ex.steps 2 (S' := (23, [.int (-2000000000)], [(0, .ref 0), (1, .int x1)], hM, 0, 0)) rfl ?_
        exact Ex.ret rfl rfl) (by decide)
    ·
      obtain ⟨k3, hkk3, rfl⟩ := en_b (x := x1) (n := 1) (by decide) h1 h2
      match k3, hkk3 with
      | 0, _ =>
        show BothI 93 201 [.int 0]
        obtain ⟨hA, rA⟩ := closed (F := 71) (mi := 93) (as := [.ref 0, .int 0]) (σ := hX) (v := .int 0) (c := 0) (s := 0) (by decide +kernel)
        obtain ⟨hB, rB⟩ := closed (F := 72) (mi := 201) (as := [.ref 0, .int 0]) (σ := hM) (v := .int 0) (c := 0) (s := 0) (by decide +kernel)
        exact mkI rA rB (by decide)
      | 1, _ =>
        show BothI 93 201 [.int 1]
        obtain ⟨hA, rA⟩ := closed (F := 71) (mi := 93) (as := [.ref 0, .int 1]) (σ := hX) (v := .int 0) (c := 0) (s := 0) (by decide +kernel)
        obtain ⟨hB, rB⟩ := closed (F := 72) (mi := 201) (as := [.ref 0, .int 1]) (σ := hM) (v := .int 0) (c := 0) (s := 0) (by decide +kernel)
        exact mkI rA rB (by decide)
      | k3 + 2, h => exact absurd h (by omega)
set_option maxHeartbeats 8000000 in
set_option maxRecDepth 100000 in
theorem both_leave : BothI 97 204 [] := by
  obtain ⟨hA, rA⟩ := closed (F := 72) (mi := 97) (as := [.ref 0]) (σ := hX) (v := .int 0) (c := 0) (s := 0) (by decide +kernel)
  obtain ⟨hB, rB⟩ := closed (F := 67) (mi := 204) (as := [.ref 0]) (σ := hM) (v := .int 0) (c := 0) (s := 0) (by decide +kernel)
  exact mkI rA rB (by decide)
set_option maxHeartbeats 8000000 in
set_option maxRecDepth 100000 in
theorem both_unbox : BothI 117 216 [] := by
  obtain ⟨hA, rA⟩ := closed (F := 60) (mi := 117) (as := [.ref 0]) (σ := hX) (v := .int 0) (c := 0) (s := 0) (by decide +kernel)
  obtain ⟨hB, rB⟩ := closed (F := 62) (mi := 216) (as := [.ref 0]) (σ := hM) (v := .int 0) (c := 0) (s := 0) (by decide +kernel)
  exact mkI rA rB (by decide)
