/-! ===== both answer alike: lanes, seal, from ===== -/
set_option maxHeartbeats 8000000 in
set_option maxRecDepth 100000 in
theorem both_lanes (x1 : Int32) : BothI 11 144 [.int x1] := by
  by_cases h1 : (x1 : Int32) < 1
  ·
    exact mkI (x := (-2)) (c1 := 0) (s1 := 0) (c2 := 0) (s2 := 0) (by
      refine Rn.of (me := me11) rfl ⟨Nat.le_of_ble_eq_true rfl, rfl⟩ rfl ?_
      refine Ex.steps 3 (S' := (3, [.int 4, .int 1, .int x1], [(0, .ref 0), (1, .int x1)], hX, 0, 0)) rfl ?_
      refine Ex.call0 (as := [.int x1, .int 1, .int 4]) (rest := []) (r := (some (.int 0))) (c1 := 0) (s1 := 0) rfl rfl rfl rfl (by
        refine Rn.of (me := me12) rfl ⟨Nat.le_of_ble_eq_true rfl, rfl⟩ rfl ?_
        refine Ex.steps 2 (S' := (2, [.int 1, .int x1], [(0, .int x1), (1, .int 1), (2, .int 4)], [], 0, 0)) rfl ?_
        refine Ex.icmp rfl (cT_lt h1) rfl ?_
        refine Ex.steps 1 (S' := (15, [.int 0], [(0, .int x1), (1, .int 1), (2, .int 4)], [], 0, 0)) rfl ?_
        exact Ex.ret rfl rfl) ?_
      refine Ex.steps 2 (S' := (11, [.int (-2)], [(0, .ref 0), (1, .int x1)], hX, 0, 0)) rfl ?_
      exact Ex.ret rfl rfl) (by
      refine Rn.of (me := me144) rfl ⟨Nat.le_of_ble_eq_true rfl, rfl⟩ rfl ?_
      refine Ex.steps 3 (S' := (3, [.int 4, .int 1, .int x1], [(0, .ref 0), (1, .int x1)], hM, 0, 0)) rfl ?_
      refine Ex.call0 (as := [.int x1, .int 1, .int 4]) (rest := []) (r := (some (.int 0))) (c1 := 0) (s1 := 0) rfl rfl rfl rfl (by
        refine Rn.of (me := me145) rfl ⟨Nat.le_of_ble_eq_true rfl, rfl⟩ rfl ?_
        refine Ex.steps 2 (S' := (2, [.int 1, .int x1], [(0, .int x1), (1, .int 1), (2, .int 4)], [], 0, 0)) rfl ?_
        refine Ex.icmp rfl (cT_lt h1) rfl ?_
        refine Ex.steps 1 (S' := (15, [.int 0], [(0, .int x1), (1, .int 1), (2, .int 4)], [], 0, 0)) rfl ?_
        exact Ex.ret rfl rfl) ?_
      refine Ex.steps 2 (S' := (11, [.int (-2)], [(0, .ref 0), (1, .int x1)], hM, 0, 0)) rfl ?_
      exact Ex.ret rfl rfl) (by decide)
  ·
    by_cases h2 : (4 : Int32) < x1
    ·
      exact mkI (x := (-2)) (c1 := 0) (s1 := 0) (c2 := 0) (s2 := 0) (by
        refine Rn.of (me := me11) rfl ⟨Nat.le_of_ble_eq_true rfl, rfl⟩ rfl ?_
        refine Ex.steps 3 (S' := (3, [.int 4, .int 1, .int x1], [(0, .ref 0), (1, .int x1)], hX, 0, 0)) rfl ?_
        refine Ex.call0 (as := [.int x1, .int 1, .int 4]) (rest := []) (r := (some (.int 0))) (c1 := 0) (s1 := 0) rfl rfl rfl rfl (by
          refine Rn.of (me := me12) rfl ⟨Nat.le_of_ble_eq_true rfl, rfl⟩ rfl ?_
          refine Ex.steps 2 (S' := (2, [.int 1, .int x1], [(0, .int x1), (1, .int 1), (2, .int 4)], [], 0, 0)) rfl ?_
          refine Ex.icmp rfl (cF_lt h1) rfl ?_
          refine Ex.steps 2 (S' := (7, [.int 4, .int x1], [(0, .int x1), (1, .int 1), (2, .int 4)], [], 0, 0)) rfl ?_
          refine Ex.icmp rfl (cT_gt h2) rfl ?_
          refine Ex.steps 1 (S' := (15, [.int 0], [(0, .int x1), (1, .int 1), (2, .int 4)], [], 0, 0)) rfl ?_
          exact Ex.ret rfl rfl) ?_
        refine Ex.steps 2 (S' := (11, [.int (-2)], [(0, .ref 0), (1, .int x1)], hX, 0, 0)) rfl ?_
        exact Ex.ret rfl rfl) (by
        refine Rn.of (me := me144) rfl ⟨Nat.le_of_ble_eq_true rfl, rfl⟩ rfl ?_
        refine Ex.steps 3 (S' := (3, [.int 4, .int 1, .int x1], [(0, .ref 0), (1, .int x1)], hM, 0, 0)) rfl ?_
        refine Ex.call0 (as := [.int x1, .int 1, .int 4]) (rest := []) (r := (some (.int 0))) (c1 := 0) (s1 := 0) rfl rfl rfl rfl (by
          refine Rn.of (me := me145) rfl ⟨Nat.le_of_ble_eq_true rfl, rfl⟩ rfl ?_
          refine Ex.steps 2 (S' := (2, [.int 1, .int x1], [(0, .int x1), (1, .int 1), (2, .int 4)], [], 0, 0)) rfl ?_
          refine Ex.icmp rfl (cF_lt h1) rfl ?_
          refine Ex.steps 2 (S' := (7, [.int 4, .int x1], [(0, .int x1), (1, .int 1), (2, .int 4)], [], 0, 0)) rfl ?_
          refine Ex.icmp rfl (cT_gt h2) rfl ?_
          refine Ex.steps 1 (S' := (15, [.int 0], [(0, .int x1), (1, .int 1), (2, .int 4)], [], 0, 0)) rfl ?_
          exact Ex.ret rfl rfl) ?_
        refine Ex.steps 2 (S' := (11, [.int (-2)], [(0, .ref 0), (1, .int x1)], hM, 0, 0)) rfl ?_
        exact Ex.ret rfl rfl) (by decide)
    ·
      obtain ⟨k3, hkk3, rfl⟩ := en_b (x := x1) (n := 4) (by decide) (lo_of h1 (by decide)) h2
      match k3, hkk3 with
      | 0, _ =>
        show BothI 11 144 [.int 0]
        obtain ⟨hA, rA⟩ := closed (F := 62) (mi := 11) (as := [.ref 0, .int 0]) (σ := hX) (v := .int (-2)) (c := 0) (s := 0) (by decide +kernel)
        obtain ⟨hB, rB⟩ := closed (F := 62) (mi := 144) (as := [.ref 0, .int 0]) (σ := hM) (v := .int (-2)) (c := 0) (s := 0) (by decide +kernel)
        exact mkI rA rB (by decide)
      | 1, _ =>
        show BothI 11 144 [.int 1]
        obtain ⟨hA, rA⟩ := closed (F := 683) (mi := 11) (as := [.ref 0, .int 1]) (σ := hX) (v := .int 1) (c := 0) (s := 0) (by decide +kernel)
        obtain ⟨hB, rB⟩ := closed (F := 3165) (mi := 144) (as := [.ref 0, .int 1]) (σ := hM) (v := .int 1) (c := 0) (s := 0) (by decide +kernel)
        exact mkI rA rB (by decide)
      | 2, _ =>
        show BothI 11 144 [.int 2]
        obtain ⟨hA, rA⟩ := closed (F := 683) (mi := 11) (as := [.ref 0, .int 2]) (σ := hX) (v := .int 1) (c := 0) (s := 0) (by decide +kernel)
        obtain ⟨hB, rB⟩ := closed (F := 3165) (mi := 144) (as := [.ref 0, .int 2]) (σ := hM) (v := .int 1) (c := 0) (s := 0) (by decide +kernel)
        exact mkI rA rB (by decide)
      | 3, _ =>
        show BothI 11 144 [.int 3]
        obtain ⟨hA, rA⟩ := closed (F := 683) (mi := 11) (as := [.ref 0, .int 3]) (σ := hX) (v := .int 1) (c := 0) (s := 0) (by decide +kernel)
        obtain ⟨hB, rB⟩ := closed (F := 3165) (mi := 144) (as := [.ref 0, .int 3]) (σ := hM) (v := .int 1) (c := 0) (s := 0) (by decide +kernel)
        exact mkI rA rB (by decide)
      | 4, _ =>
        show BothI 11 144 [.int 4]
        obtain ⟨hA, rA⟩ := closed (F := 683) (mi := 11) (as := [.ref 0, .int 4]) (σ := hX) (v := .int 1) (c := 0) (s := 0) (by decide +kernel)
        obtain ⟨hB, rB⟩ := closed (F := 3165) (mi := 144) (as := [.ref 0, .int 4]) (σ := hM) (v := .int 1) (c := 0) (s := 0) (by decide +kernel)
        exact mkI rA rB (by decide)
      | k3 + 5, h => exact absurd h (by omega)
set_option maxHeartbeats 8000000 in
set_option maxRecDepth 100000 in
theorem both_seal (x1 : Int32) : BothI 98 205 [.int x1] := by
  by_cases h1 : (x1 : Int32) < 0
  ·
    exact mkI (x := 0) (c1 := 0) (s1 := 0) (c2 := 0) (s2 := 0) (by
      refine Rn.of (me := me98) rfl ⟨Nat.le_of_ble_eq_true rfl, rfl⟩ rfl ?_
      refine Ex.steps 3 (S' := (3, [.int 1, .int 0, .int x1], [(0, .ref 0), (1, .int x1)], hX, 0, 0)) rfl ?_
      refine Ex.call0 (as := [.int x1, .int 0, .int 1]) (rest := []) (r := (some (.int 0))) (c1 := 0) (s1 := 0) rfl rfl rfl rfl (by
        refine Rn.of (me := me12) rfl ⟨Nat.le_of_ble_eq_true rfl, rfl⟩ rfl ?_
        refine Ex.steps 2 (S' := (2, [.int 0, .int x1], [(0, .int x1), (1, .int 0), (2, .int 1)], [], 0, 0)) rfl ?_
        refine Ex.icmp rfl (cT_lt h1) rfl ?_
        refine Ex.steps 1 (S' := (15, [.int 0], [(0, .int x1), (1, .int 0), (2, .int 1)], [], 0, 0)) rfl ?_
        exact Ex.ret rfl rfl) ?_
      refine Ex.steps 2 (S' := (10, [.int 0], [(0, .ref 0), (1, .int x1)], hX, 0, 0)) rfl ?_
      exact Ex.ret rfl rfl) (by
      refine Rn.of (me := me205) rfl ⟨Nat.le_of_ble_eq_true rfl, rfl⟩ rfl ?_
      refine Ex.steps 3 (S' := (3, [.int 1, .int 0, .int x1], [(0, .ref 0), (1, .int x1)], hM, 0, 0)) rfl ?_
      refine Ex.call0 (as := [.int x1, .int 0, .int 1]) (rest := []) (r := (some (.int 0))) (c1 := 0) (s1 := 0) rfl rfl rfl rfl (by
        refine Rn.of (me := me145) rfl ⟨Nat.le_of_ble_eq_true rfl, rfl⟩ rfl ?_
        refine Ex.steps 2 (S' := (2, [.int 0, .int x1], [(0, .int x1), (1, .int 0), (2, .int 1)], [], 0, 0)) rfl ?_
        refine Ex.icmp rfl (cT_lt h1) rfl ?_
        refine Ex.steps 1 (S' := (15, [.int 0], [(0, .int x1), (1, .int 0), (2, .int 1)], [], 0, 0)) rfl ?_
        exact Ex.ret rfl rfl) ?_
      refine Ex.steps 2 (S' := (18, [.int 0], [(0, .ref 0), (1, .int x1)], hM, 0, 0)) rfl ?_
      exact Ex.ret rfl rfl) (by decide)
  ·
    by_cases h2 : (1 : Int32) < x1
    ·
      exact mkI (x := 0) (c1 := 0) (s1 := 0) (c2 := 0) (s2 := 0) (by
        refine Rn.of (me := me98) rfl ⟨Nat.le_of_ble_eq_true rfl, rfl⟩ rfl ?_
        refine Ex.steps 3 (S' := (3, [.int 1, .int 0, .int x1], [(0, .ref 0), (1, .int x1)], hX, 0, 0)) rfl ?_
        refine Ex.call0 (as := [.int x1, .int 0, .int 1]) (rest := []) (r := (some (.int 0))) (c1 := 0) (s1 := 0) rfl rfl rfl rfl (by
          refine Rn.of (me := me12) rfl ⟨Nat.le_of_ble_eq_true rfl, rfl⟩ rfl ?_
          refine Ex.steps 2 (S' := (2, [.int 0, .int x1], [(0, .int x1), (1, .int 0), (2, .int 1)], [], 0, 0)) rfl ?_
          refine Ex.icmp rfl (cF_lt h1) rfl ?_
          refine Ex.steps 2 (S' := (7, [.int 1, .int x1], [(0, .int x1), (1, .int 0), (2, .int 1)], [], 0, 0)) rfl ?_
          refine Ex.icmp rfl (cT_gt h2) rfl ?_
          refine Ex.steps 1 (S' := (15, [.int 0], [(0, .int x1), (1, .int 0), (2, .int 1)], [], 0, 0)) rfl ?_
          exact Ex.ret rfl rfl) ?_
        refine Ex.steps 2 (S' := (10, [.int 0], [(0, .ref 0), (1, .int x1)], hX, 0, 0)) rfl ?_
        exact Ex.ret rfl rfl) (by
        refine Rn.of (me := me205) rfl ⟨Nat.le_of_ble_eq_true rfl, rfl⟩ rfl ?_
        refine Ex.steps 3 (S' := (3, [.int 1, .int 0, .int x1], [(0, .ref 0), (1, .int x1)], hM, 0, 0)) rfl ?_
        refine Ex.call0 (as := [.int x1, .int 0, .int 1]) (rest := []) (r := (some (.int 0))) (c1 := 0) (s1 := 0) rfl rfl rfl rfl (by
          refine Rn.of (me := me145) rfl ⟨Nat.le_of_ble_eq_true rfl, rfl⟩ rfl ?_
          refine Ex.steps 2 (S' := (2, [.int 0, .int x1], [(0, .int x1), (1, .int 0), (2, .int 1)], [], 0, 0)) rfl ?_
          refine Ex.icmp rfl (cF_lt h1) rfl ?_
          refine Ex.steps 2 (S' := (7, [.int 1, .int x1], [(0, .int x1), (1, .int 0), (2, .int 1)], [], 0, 0)) rfl ?_
          refine Ex.icmp rfl (cT_gt h2) rfl ?_
          refine Ex.steps 1 (S' := (15, [.int 0], [(0, .int x1), (1, .int 0), (2, .int 1)], [], 0, 0)) rfl ?_
          exact Ex.ret rfl rfl) ?_
        refine Ex.steps 2 (S' := (18, [.int 0], [(0, .ref 0), (1, .int x1)], hM, 0, 0)) rfl ?_
        exact Ex.ret rfl rfl) (by decide)
    ·
      obtain ⟨k3, hkk3, rfl⟩ := en_b (x := x1) (n := 1) (by decide) h1 h2
      match k3, hkk3 with
      | 0, _ =>
        show BothI 98 205 [.int 0]
        obtain ⟨hA, rA⟩ := closed (F := 91) (mi := 98) (as := [.ref 0, .int 0]) (σ := hX) (v := .int 527) (c := 0) (s := 0) (by decide +kernel)
        obtain ⟨hB, rB⟩ := closed (F := 97) (mi := 205) (as := [.ref 0, .int 0]) (σ := hM) (v := .int 527) (c := 0) (s := 0) (by decide +kernel)
        exact mkI rA rB (by decide)
      | 1, _ =>
        show BothI 98 205 [.int 1]
        obtain ⟨hA, rA⟩ := closed (F := 92) (mi := 98) (as := [.ref 0, .int 1]) (σ := hX) (v := .int 527) (c := 0) (s := 0) (by decide +kernel)
        obtain ⟨hB, rB⟩ := closed (F := 95) (mi := 205) (as := [.ref 0, .int 1]) (σ := hM) (v := .int 527) (c := 0) (s := 0) (by decide +kernel)
        exact mkI rA rB (by decide)
      | k3 + 2, h => exact absurd h (by omega)
set_option maxHeartbeats 8000000 in
set_option maxRecDepth 100000 in
theorem both_from (x1 : Int32) : BothI 140 224 [.int x1] := by
  by_cases h1 : (x1 : Int32) < 0
  ·
    exact mkI (x := (-2)) (c1 := 0) (s1 := 0) (c2 := 0) (s2 := 0) (by
      refine Rn.of (me := me140) rfl ⟨Nat.le_of_ble_eq_true rfl, rfl⟩ rfl ?_
      refine Ex.steps 3 (S' := (3, [.int 1, .int 0, .int x1], [(0, .ref 0), (1, .int x1)], hX, 0, 0)) rfl ?_
      refine Ex.call0 (as := [.int x1, .int 0, .int 1]) (rest := []) (r := (some (.int 0))) (c1 := 0) (s1 := 0) rfl rfl rfl rfl (by
        refine Rn.of (me := me12) rfl ⟨Nat.le_of_ble_eq_true rfl, rfl⟩ rfl ?_
        refine Ex.steps 2 (S' := (2, [.int 0, .int x1], [(0, .int x1), (1, .int 0), (2, .int 1)], [], 0, 0)) rfl ?_
        refine Ex.icmp rfl (cT_lt h1) rfl ?_
        refine Ex.steps 1 (S' := (15, [.int 0], [(0, .int x1), (1, .int 0), (2, .int 1)], [], 0, 0)) rfl ?_
        exact Ex.ret rfl rfl) ?_
      refine Ex.steps 2 (S' := (11, [.int (-2)], [(0, .ref 0), (1, .int x1)], hX, 0, 0)) rfl ?_
      exact Ex.ret rfl rfl) (by
      refine Rn.of (me := me224) rfl ⟨Nat.le_of_ble_eq_true rfl, rfl⟩ rfl ?_
      refine Ex.steps 3 (S' := (3, [.int 1, .int 0, .int x1], [(0, .ref 0), (1, .int x1)], hM, 0, 0)) rfl ?_
      refine Ex.call0 (as := [.int x1, .int 0, .int 1]) (rest := []) (r := (some (.int 0))) (c1 := 0) (s1 := 0) rfl rfl rfl rfl (by
        refine Rn.of (me := me145) rfl ⟨Nat.le_of_ble_eq_true rfl, rfl⟩ rfl ?_
        refine Ex.steps 2 (S' := (2, [.int 0, .int x1], [(0, .int x1), (1, .int 0), (2, .int 1)], [], 0, 0)) rfl ?_
        refine Ex.icmp rfl (cT_lt h1) rfl ?_
        refine Ex.steps 1 (S' := (15, [.int 0], [(0, .int x1), (1, .int 0), (2, .int 1)], [], 0, 0)) rfl ?_
        exact Ex.ret rfl rfl) ?_
      refine Ex.steps 2 (S' := (11, [.int (-2)], [(0, .ref 0), (1, .int x1)], hM, 0, 0)) rfl ?_
      exact Ex.ret rfl rfl) (by decide)
  ·
    by_cases h2 : (1 : Int32) < x1
    ·
      exact mkI (x := (-2)) (c1 := 0) (s1 := 0) (c2 := 0) (s2 := 0) (by
        refine Rn.of (me := me140) rfl ⟨Nat.le_of_ble_eq_true rfl, rfl⟩ rfl ?_
        refine Ex.steps 3 (S' := (3, [.int 1, .int 0, .int x1], [(0, .ref 0), (1, .int x1)], hX, 0, 0)) rfl ?_
        refine Ex.call0 (as := [.int x1, .int 0, .int 1]) (rest := []) (r := (some (.int 0))) (c1 := 0) (s1 := 0) rfl rfl rfl rfl (by
          refine Rn.of (me := me12) rfl ⟨Nat.le_of_ble_eq_true rfl, rfl⟩ rfl ?_
          refine Ex.steps 2 (S' := (2, [.int 0, .int x1], [(0, .int x1), (1, .int 0), (2, .int 1)], [], 0, 0)) rfl ?_
          refine Ex.icmp rfl (cF_lt h1) rfl ?_
          refine Ex.steps 2 (S' := (7, [.int 1, .int x1], [(0, .int x1), (1, .int 0), (2, .int 1)], [], 0, 0)) rfl ?_
          refine Ex.icmp rfl (cT_gt h2) rfl ?_
          refine Ex.steps 1 (S' := (15, [.int 0], [(0, .int x1), (1, .int 0), (2, .int 1)], [], 0, 0)) rfl ?_
          exact Ex.ret rfl rfl) ?_
        refine Ex.steps 2 (S' := (11, [.int (-2)], [(0, .ref 0), (1, .int x1)], hX, 0, 0)) rfl ?_
        exact Ex.ret rfl rfl) (by
        refine Rn.of (me := me224) rfl ⟨Nat.le_of_ble_eq_true rfl, rfl⟩ rfl ?_
        refine Ex.steps 3 (S' := (3, [.int 1, .int 0, .int x1], [(0, .ref 0), (1, .int x1)], hM, 0, 0)) rfl ?_
        refine Ex.call0 (as := [.int x1, .int 0, .int 1]) (rest := []) (r := (some (.int 0))) (c1 := 0) (s1 := 0) rfl rfl rfl rfl (by
          refine Rn.of (me := me145) rfl ⟨Nat.le_of_ble_eq_true rfl, rfl⟩ rfl ?_
          refine Ex.steps 2 (S' := (2, [.int 0, .int x1], [(0, .int x1), (1, .int 0), (2, .int 1)], [], 0, 0)) rfl ?_
          refine Ex.icmp rfl (cF_lt h1) rfl ?_
          refine Ex.steps 2 (S' := (7, [.int 1, .int x1], [(0, .int x1), (1, .int 0), (2, .int 1)], [], 0, 0)) rfl ?_
          refine Ex.icmp rfl (cT_gt h2) rfl ?_
          refine Ex.steps 1 (S' := (15, [.int 0], [(0, .int x1), (1, .int 0), (2, .int 1)], [], 0, 0)) rfl ?_
          exact Ex.ret rfl rfl) ?_
        refine Ex.steps 2 (S' := (11, [.int (-2)], [(0, .ref 0), (1, .int x1)], hM, 0, 0)) rfl ?_
        exact Ex.ret rfl rfl) (by decide)
    ·
      obtain ⟨k3, hkk3, rfl⟩ := en_b (x := x1) (n := 1) (by decide) h1 h2
      match k3, hkk3 with
      | 0, _ =>
        show BothI 140 224 [.int 0]
        obtain ⟨hA, rA⟩ := closed (F := 71) (mi := 140) (as := [.ref 0, .int 0]) (σ := hX) (v := .int (-3)) (c := 0) (s := 0) (by decide +kernel)
        obtain ⟨hB, rB⟩ := closed (F := 71) (mi := 224) (as := [.ref 0, .int 0]) (σ := hM) (v := .int (-3)) (c := 0) (s := 0) (by decide +kernel)
        exact mkI rA rB (by decide)
      | 1, _ =>
        show BothI 140 224 [.int 1]
        obtain ⟨hA, rA⟩ := closed (F := 71) (mi := 140) (as := [.ref 0, .int 1]) (σ := hX) (v := .int (-3)) (c := 0) (s := 0) (by decide +kernel)
        obtain ⟨hB, rB⟩ := closed (F := 71) (mi := 224) (as := [.ref 0, .int 1]) (σ := hM) (v := .int (-3)) (c := 0) (s := 0) (by decide +kernel)
        exact mkI rA rB (by decide)
      | k3 + 2, h => exact absurd h (by omega)
