/-! ===== both answer alike: box, count, now ===== -/
set_option maxHeartbeats 8000000 in
set_option maxRecDepth 100000 in
theorem both_now (x1 : Int32) : BothI 88 196 [.int x1] := by
  by_cases h1 : (x1 : Int32) < 0
  ·
    exact mkI (x := (-2000000)) (c1 := 0) (s1 := 0) (c2 := 0) (s2 := 0) (by
      refine Rn.of (me := me88) rfl ⟨Nat.le_of_ble_eq_true rfl, rfl⟩ rfl ?_
      refine Ex.steps 1 (S' := (1, [.int x1], [(0, .ref 0), (1, .int x1)], hX, 0, 0)) rfl ?_
      refine Ex.tsLo rfl h1 rfl rfl ?_
      refine Ex.steps 1 (S' := (117, [.int (-2000000)], [(0, .ref 0), (1, .int x1)], hX, 0, 0)) rfl ?_
      exact Ex.ret rfl rfl) (by
      refine Rn.of (me := me196) rfl ⟨Nat.le_of_ble_eq_true rfl, rfl⟩ rfl ?_
      refine Ex.steps 3 (S' := (4, [.int 7, .int 0, .int x1], [(0, .ref 0), (1, .int x1)], hM, 0, 0)) rfl ?_
      refine Ex.call0 (as := [.int x1, .int 0, .int 7]) (rest := []) (r := (some (.int 0))) (c1 := 0) (s1 := 0) rfl rfl rfl rfl (by
        refine Rn.of (me := me145) rfl ⟨Nat.le_of_ble_eq_true rfl, rfl⟩ rfl ?_
        refine Ex.steps 2 (S' := (2, [.int 0, .int x1], [(0, .int x1), (1, .int 0), (2, .int 7)], [], 0, 0)) rfl ?_
        refine Ex.icmp rfl (cT_lt h1) rfl ?_
        refine Ex.steps 1 (S' := (15, [.int 0], [(0, .int x1), (1, .int 0), (2, .int 7)], [], 0, 0)) rfl ?_
        exact Ex.ret rfl rfl) ?_
      refine Ex.steps 2 (S' := (20, [.int (-2000000)], [(0, .ref 0), (1, .int x1)], hM, 0, 0)) rfl ?_
      exact Ex.ret rfl rfl) (by decide)
  ·
    by_cases h2 : (7 : Int32) < x1
    ·
      exact mkI (x := (-2000000)) (c1 := 0) (s1 := 0) (c2 := 0) (s2 := 0) (by
        refine Rn.of (me := me88) rfl ⟨Nat.le_of_ble_eq_true rfl, rfl⟩ rfl ?_
        refine Ex.steps 1 (S' := (1, [.int x1], [(0, .ref 0), (1, .int x1)], hX, 0, 0)) rfl ?_
        refine Ex.tsHi rfl h2 rfl rfl ?_
        refine Ex.steps 1 (S' := (117, [.int (-2000000)], [(0, .ref 0), (1, .int x1)], hX, 0, 0)) rfl ?_
        exact Ex.ret rfl rfl) (by
        refine Rn.of (me := me196) rfl ⟨Nat.le_of_ble_eq_true rfl, rfl⟩ rfl ?_
        refine Ex.steps 3 (S' := (4, [.int 7, .int 0, .int x1], [(0, .ref 0), (1, .int x1)], hM, 0, 0)) rfl ?_
        refine Ex.call0 (as := [.int x1, .int 0, .int 7]) (rest := []) (r := (some (.int 0))) (c1 := 0) (s1 := 0) rfl rfl rfl rfl (by
          refine Rn.of (me := me145) rfl ⟨Nat.le_of_ble_eq_true rfl, rfl⟩ rfl ?_
          refine Ex.steps 2 (S' := (2, [.int 0, .int x1], [(0, .int x1), (1, .int 0), (2, .int 7)], [], 0, 0)) rfl ?_
          refine Ex.icmp rfl (cF_lt h1) rfl ?_
          refine Ex.steps 2 (S' := (7, [.int 7, .int x1], [(0, .int x1), (1, .int 0), (2, .int 7)], [], 0, 0)) rfl ?_
          refine Ex.icmp rfl (cT_gt h2) rfl ?_
          refine Ex.steps 1 (S' := (15, [.int 0], [(0, .int x1), (1, .int 0), (2, .int 7)], [], 0, 0)) rfl ?_
          exact Ex.ret rfl rfl) ?_
        refine Ex.steps 2 (S' := (20, [.int (-2000000)], [(0, .ref 0), (1, .int x1)], hM, 0, 0)) rfl ?_
        exact Ex.ret rfl rfl) (by decide)
    ·
      obtain ⟨k3, hkk3, rfl⟩ := en_b (x := x1) (n := 7) (by decide) h1 h2
      match k3, hkk3 with
      | 0, _ =>
        show BothI 88 196 [.int 0]
        obtain ⟨hA, rA⟩ := closed (F := 56) (mi := 88) (as := [.ref 0, .int 0]) (σ := hX) (v := .int 0) (c := 0) (s := 0) (by decide +kernel)
        obtain ⟨hB, rB⟩ := closed (F := 80) (mi := 196) (as := [.ref 0, .int 0]) (σ := hM) (v := .int 0) (c := 0) (s := 0) (by decide +kernel)
        exact mkI rA rB (by decide)
      | 1, _ =>
        show BothI 88 196 [.int 1]
        obtain ⟨hA, rA⟩ := closed (F := 56) (mi := 88) (as := [.ref 0, .int 1]) (σ := hX) (v := .int 0) (c := 0) (s := 0) (by decide +kernel)
        obtain ⟨hB, rB⟩ := closed (F := 80) (mi := 196) (as := [.ref 0, .int 1]) (σ := hM) (v := .int 0) (c := 0) (s := 0) (by decide +kernel)
        exact mkI rA rB (by decide)
      | 2, _ =>
        show BothI 88 196 [.int 2]
        obtain ⟨hA, rA⟩ := closed (F := 56) (mi := 88) (as := [.ref 0, .int 2]) (σ := hX) (v := .int 0) (c := 0) (s := 0) (by decide +kernel)
        obtain ⟨hB, rB⟩ := closed (F := 80) (mi := 196) (as := [.ref 0, .int 2]) (σ := hM) (v := .int 0) (c := 0) (s := 0) (by decide +kernel)
        exact mkI rA rB (by decide)
      | 3, _ =>
        show BothI 88 196 [.int 3]
        obtain ⟨hA, rA⟩ := closed (F := 56) (mi := 88) (as := [.ref 0, .int 3]) (σ := hX) (v := .int 0) (c := 0) (s := 0) (by decide +kernel)
        obtain ⟨hB, rB⟩ := closed (F := 80) (mi := 196) (as := [.ref 0, .int 3]) (σ := hM) (v := .int 0) (c := 0) (s := 0) (by decide +kernel)
        exact mkI rA rB (by decide)
      | 4, _ =>
        show BothI 88 196 [.int 4]
        obtain ⟨hA, rA⟩ := closed (F := 56) (mi := 88) (as := [.ref 0, .int 4]) (σ := hX) (v := .int 0) (c := 0) (s := 0) (by decide +kernel)
        obtain ⟨hB, rB⟩ := closed (F := 80) (mi := 196) (as := [.ref 0, .int 4]) (σ := hM) (v := .int 0) (c := 0) (s := 0) (by decide +kernel)
        exact mkI rA rB (by decide)
      | 5, _ =>
        show BothI 88 196 [.int 5]
        obtain ⟨hA, rA⟩ := closed (F := 99) (mi := 88) (as := [.ref 0, .int 5]) (σ := hX) (v := .int 3) (c := 0) (s := 0) (by decide +kernel)
        obtain ⟨hB, rB⟩ := closed (F := 169) (mi := 196) (as := [.ref 0, .int 5]) (σ := hM) (v := .int 3) (c := 0) (s := 0) (by decide +kernel)
        exact mkI rA rB (by decide)
      | 6, _ =>
        show BothI 88 196 [.int 6]
        obtain ⟨hA, rA⟩ := closed (F := 56) (mi := 88) (as := [.ref 0, .int 6]) (σ := hX) (v := .int 0) (c := 0) (s := 0) (by decide +kernel)
        obtain ⟨hB, rB⟩ := closed (F := 84) (mi := 196) (as := [.ref 0, .int 6]) (σ := hM) (v := .int 0) (c := 0) (s := 0) (by decide +kernel)
        exact mkI rA rB (by decide)
      | 7, _ =>
        show BothI 88 196 [.int 7]
        obtain ⟨hA, rA⟩ := closed (F := 56) (mi := 88) (as := [.ref 0, .int 7]) (σ := hX) (v := .int 0) (c := 0) (s := 0) (by decide +kernel)
        obtain ⟨hB, rB⟩ := closed (F := 84) (mi := 196) (as := [.ref 0, .int 7]) (σ := hM) (v := .int 0) (c := 0) (s := 0) (by decide +kernel)
        exact mkI rA rB (by decide)
      | k3 + 8, h => exact absurd h (by omega)
set_option maxHeartbeats 8000000 in
set_option maxRecDepth 100000 in
theorem both_box (x1 : Int32) : BothI 116 215 [.int x1] := by
  by_cases h1 : (x1 : Int32) < (-1000)
  ·
    exact mkI (x := (-2)) (c1 := 0) (s1 := 0) (c2 := 0) (s2 := 0) (by
      refine Rn.of (me := me116) rfl ⟨Nat.le_of_ble_eq_true rfl, rfl⟩ rfl ?_
      refine Ex.steps 3 (S' := (7, [.int 1000, .int (-1000), .int x1], [(0, .ref 0), (1, .int x1)], hX, 0, 0)) rfl ?_
      refine Ex.call0 (as := [.int x1, .int (-1000), .int 1000]) (rest := []) (r := (some (.int 0))) (c1 := 0) (s1 := 0) rfl rfl rfl rfl (by
        refine Rn.of (me := me12) rfl ⟨Nat.le_of_ble_eq_true rfl, rfl⟩ rfl ?_
        refine Ex.steps 2 (S' := (2, [.int (-1000), .int x1], [(0, .int x1), (1, .int (-1000)), (2, .int 1000)], [], 0, 0)) rfl ?_
        refine Ex.icmp rfl (cT_lt h1) rfl ?_
        refine Ex.steps 1 (S' := (15, [.int 0], [(0, .int x1), (1, .int (-1000)), (2, .int 1000)], [], 0, 0)) rfl ?_
        exact Ex.ret rfl rfl) ?_
      refine Ex.steps 2 (S' := (15, [.int (-2)], [(0, .ref 0), (1, .int x1)], hX, 0, 0)) rfl ?_
      exact Ex.ret rfl rfl) (by
      refine Rn.of (me := me215) rfl ⟨Nat.le_of_ble_eq_true rfl, rfl⟩ rfl ?_
      refine Ex.steps 3 (S' := (7, [.int 1000, .int (-1000), .int x1], [(0, .ref 0), (1, .int x1)], hM, 0, 0)) rfl ?_
      refine Ex.call0 (as := [.int x1, .int (-1000), .int 1000]) (rest := []) (r := (some (.int 0))) (c1 := 0) (s1 := 0) rfl rfl rfl rfl (by
        refine Rn.of (me := me145) rfl ⟨Nat.le_of_ble_eq_true rfl, rfl⟩ rfl ?_
        refine Ex.steps 2 (S' := (2, [.int (-1000), .int x1], [(0, .int x1), (1, .int (-1000)), (2, .int 1000)], [], 0, 0)) rfl ?_
        refine Ex.icmp rfl (cT_lt h1) rfl ?_
        refine Ex.steps 1 (S' := (15, [.int 0], [(0, .int x1), (1, .int (-1000)), (2, .int 1000)], [], 0, 0)) rfl ?_
        exact Ex.ret rfl rfl) ?_
      refine Ex.steps 2 (S' := (15, [.int (-2)], [(0, .ref 0), (1, .int x1)], hM, 0, 0)) rfl ?_
      exact Ex.ret rfl rfl) (by decide)
  ·
    by_cases h2 : (1000 : Int32) < x1
    ·
      exact mkI (x := (-2)) (c1 := 0) (s1 := 0) (c2 := 0) (s2 := 0) (by
        refine Rn.of (me := me116) rfl ⟨Nat.le_of_ble_eq_true rfl, rfl⟩ rfl ?_
        refine Ex.steps 3 (S' := (7, [.int 1000, .int (-1000), .int x1], [(0, .ref 0), (1, .int x1)], hX, 0, 0)) rfl ?_
        refine Ex.call0 (as := [.int x1, .int (-1000), .int 1000]) (rest := []) (r := (some (.int 0))) (c1 := 0) (s1 := 0) rfl rfl rfl rfl (by
          refine Rn.of (me := me12) rfl ⟨Nat.le_of_ble_eq_true rfl, rfl⟩ rfl ?_
          refine Ex.steps 2 (S' := (2, [.int (-1000), .int x1], [(0, .int x1), (1, .int (-1000)), (2, .int 1000)], [], 0, 0)) rfl ?_
          refine Ex.icmp rfl (cF_lt h1) rfl ?_
          refine Ex.steps 2 (S' := (7, [.int 1000, .int x1], [(0, .int x1), (1, .int (-1000)), (2, .int 1000)], [], 0, 0)) rfl ?_
          refine Ex.icmp rfl (cT_gt h2) rfl ?_
          refine Ex.steps 1 (S' := (15, [.int 0], [(0, .int x1), (1, .int (-1000)), (2, .int 1000)], [], 0, 0)) rfl ?_
          exact Ex.ret rfl rfl) ?_
        refine Ex.steps 2 (S' := (15, [.int (-2)], [(0, .ref 0), (1, .int x1)], hX, 0, 0)) rfl ?_
        exact Ex.ret rfl rfl) (by
        refine Rn.of (me := me215) rfl ⟨Nat.le_of_ble_eq_true rfl, rfl⟩ rfl ?_
        refine Ex.steps 3 (S' := (7, [.int 1000, .int (-1000), .int x1], [(0, .ref 0), (1, .int x1)], hM, 0, 0)) rfl ?_
        refine Ex.call0 (as := [.int x1, .int (-1000), .int 1000]) (rest := []) (r := (some (.int 0))) (c1 := 0) (s1 := 0) rfl rfl rfl rfl (by
          refine Rn.of (me := me145) rfl ⟨Nat.le_of_ble_eq_true rfl, rfl⟩ rfl ?_
          refine Ex.steps 2 (S' := (2, [.int (-1000), .int x1], [(0, .int x1), (1, .int (-1000)), (2, .int 1000)], [], 0, 0)) rfl ?_
          refine Ex.icmp rfl (cF_lt h1) rfl ?_
          refine Ex.steps 2 (S' := (7, [.int 1000, .int x1], [(0, .int x1), (1, .int (-1000)), (2, .int 1000)], [], 0, 0)) rfl ?_
          refine Ex.icmp rfl (cT_gt h2) rfl ?_
          refine Ex.steps 1 (S' := (15, [.int 0], [(0, .int x1), (1, .int (-1000)), (2, .int 1000)], [], 0, 0)) rfl ?_
          exact Ex.ret rfl rfl) ?_
        refine Ex.steps 2 (S' := (15, [.int (-2)], [(0, .ref 0), (1, .int x1)], hM, 0, 0)) rfl ?_
        exact Ex.ret rfl rfl) (by decide)
    ·
      exact mkI (x := 1) (c1 := 0) (s1 := 0) (c2 := 0) (s2 := 0) (by
        refine Rn.of (me := me116) rfl ⟨Nat.le_of_ble_eq_true rfl, rfl⟩ rfl ?_
        refine Ex.steps 3 (S' := (7, [.int 1000, .int (-1000), .int x1], [(0, .ref 0), (1, .int x1)], hX, 0, 0)) rfl ?_
        refine Ex.call0 (as := [.int x1, .int (-1000), .int 1000]) (rest := []) (r := (some (.int 1))) (c1 := 0) (s1 := 0) rfl rfl rfl rfl (by
          refine Rn.of (me := me12) rfl ⟨Nat.le_of_ble_eq_true rfl, rfl⟩ rfl ?_
          refine Ex.steps 2 (S' := (2, [.int (-1000), .int x1], [(0, .int x1), (1, .int (-1000)), (2, .int 1000)], [], 0, 0)) rfl ?_
          refine Ex.icmp rfl (cF_lt h1) rfl ?_
          refine Ex.steps 2 (S' := (7, [.int 1000, .int x1], [(0, .int x1), (1, .int (-1000)), (2, .int 1000)], [], 0, 0)) rfl ?_
          refine Ex.icmp rfl (cF_gt h2) rfl ?_
          refine Ex.steps 2 (S' := (15, [.int 1], [(0, .int x1), (1, .int (-1000)), (2, .int 1000)], [], 0, 0)) rfl ?_
          exact Ex.ret rfl rfl) ?_
        refine Ex.steps 24 (S' := (67, [.int 1], [(0, .ref 0), (1, .int x1)], ((hX.set 38 (.inr (0, .inl ((List.replicate 10 0).set 0 x1)))).set 1 (.inl (1, [.int 3, .ref 2, .ref 13, .ref 19, .ref 20, .int 3, .int 5, .ref 21, .int 100, .int 0, .ref 26, .ref 27, .ref 28, .ref 32, .int 1, .ref 38, .ref 39, .ref 40]))), 0, 0)) rfl ?_
        exact Ex.ret rfl rfl) (by
        refine Rn.of (me := me215) rfl ⟨Nat.le_of_ble_eq_true rfl, rfl⟩ rfl ?_
        refine Ex.steps 3 (S' := (7, [.int 1000, .int (-1000), .int x1], [(0, .ref 0), (1, .int x1)], hM, 0, 0)) rfl ?_
        refine Ex.call0 (as := [.int x1, .int (-1000), .int 1000]) (rest := []) (r := (some (.int 1))) (c1 := 0) (s1 := 0) rfl rfl rfl rfl (by
          refine Rn.of (me := me145) rfl ⟨Nat.le_of_ble_eq_true rfl, rfl⟩ rfl ?_
          refine Ex.steps 2 (S' := (2, [.int (-1000), .int x1], [(0, .int x1), (1, .int (-1000)), (2, .int 1000)], [], 0, 0)) rfl ?_
          refine Ex.icmp rfl (cF_lt h1) rfl ?_
          refine Ex.steps 2 (S' := (7, [.int 1000, .int x1], [(0, .int x1), (1, .int (-1000)), (2, .int 1000)], [], 0, 0)) rfl ?_
          refine Ex.icmp rfl (cF_gt h2) rfl ?_
          refine Ex.steps 2 (S' := (15, [.int 1], [(0, .int x1), (1, .int (-1000)), (2, .int 1000)], [], 0, 0)) rfl ?_
          exact Ex.ret rfl rfl) ?_
        refine Ex.steps 29 (S' := (66, [.int 1], [(0, .ref 0), (1, .int x1)], ((hM.set 1 (.inr (0, .inl ([3, 0, 0, 0, 0, 0, 0, 0, 3, 5, 0, 0, 0, 0, 0, 0, 0, 100, 0, 0, (-1), 0, 0, 0, 0, 0, 0, 0, 0, 0, 0, 0, 0, 0, 0, 0, 0, 0, 0, 0, 0, 0, 1, 0, 0, 0, 0, 0, 0, 0, 0, 0, 0, 0, 0, 0, 0, 0, 0, 0, 0, 0, 0, 0, 0, 0, 0, 0, 0, 0, 0, 0, 0, 0, 0, 0, 0, 0, 0, 0, 0, 0, 1, 0, 0, 0, 0, 0, 0, 0, 0, 0, 0, 0, 0, 0, 0, 0, 0, 0, 0, 0, 0, 0, 0, 0, 0, 0, 0, 0, 0, 0, 0, 0, 0, 0, 0, 0, 0, 0, 0, 0, 1, 0, 0, 0, 0, 0, 0, 0, 0, 0, 0, 0, 0, 0, 0, 0, 0, 0, 0, 0, 0, 0, 0, 0, 0, 0, 0, 0, 0, 0, 0, 0, 0, 0, 0, 0, 0, 0, 0, 0, 1, 0, 0, 0, 0, 0, 0, 0, 0, 0, 0, 0, 0, 0, 0, 0, 0, 0, 0, 0, 0, 0, 0, 0, 0, 0, 0, 0, 0, 0, 0, 0, 0, 0, 0, 0, 0, 0, 0, 0, 0, 0, 0, 0, 0, 0, 0, 0, 0, 0, 0, 0, 0, 0, 0, 0, 0, 0, 0, 0, 0, 0, 0, 0, 0, 0, 0, 0, 0, 0, 0, 0, 0, 0, 0, 0, 0, 0, 0, 0, 0, 0, 0, 0, 0, 0, 0, 0, 0, 0, 0, 0, 0, 0, 0, 0, 0, 0, 0, 0, 0, 0, 0, 0, 0, 0, 0, 0, 0, 0, 0, 0, 0, 0, 0, 0, 0, 0, 0, 0, 0, 0, 0, 0, 0, 0, 0, 0, 0, 0, 0, 0, 0, 0, 0, 0, 0, 0, 0, 0, 0, 0, 0, 0, 0, 0, 0, 0, 0, 0, 0, 0, 0, 0, 0, 0, 0, 0, 0, 0, 0, 0, 0, 0, 0, 0, 0, 0, 0, 0, 0, 0, 0, 0, 0, 0, 0, 0, 0, 0, 0, 0, 0, 0, 0, 0, 0, 0, 0, 0, 0, 0, 0, 0, 0, 0, 0, 0, 0, 0, 0, 0, 0, 0, 0, 0, 0, 0, 0, 0, 0, 0, 0, 0, 0, 0, 0, 0, 0, 0, 0, 0, 0, 0, 0, 0, 0, 0, 0, 0, 0, 0, 0, 0, 0, 0, 0, 0, 0, 0, 0, 0, 0, 0, 0, 0, 0, 0, 0, 0, 0, 0, 0, 0, 0, 0, 0, 0, 0, 0, 0, 0, 0, 0, 0, 0, 0, 0, 0, 0, 0, 0, 0, 0, 0, 0, 0, 0, 0, 0, 0, 0, 0, 0, 0, 0, 0, 0, 0, 0, 0, 0, 0, 0, 0, 0, 0, 0, 0, 0, 0, 0, 0, 0, 0, 0, 0, 0, 0, 0, 0, 0, 0, 0, 0, 0, 0, 0, 0, 0, 0, 0, 0, 0, 0, 0, 0, 0, 0, 0, 0, 0, 0, 0, 0, 0, 0, 0, 0, 0, 0, 0, 0, 0, 0, 0, 0, 0, 0, 0, 0, 0, 0, 0, 0, 0, 0, 0, 0, 0, 0, 0, 0, 0, 0, 0, 0, 0, 0, 0, 0, 0, 0, 0, 0, 0, 0, 0, 0, 0, 0, 0, 0, 0, 0, 0, 0, 0, 0, 0, 0, 0, 0, 0, 0, 0, 0, 0, 0, 0, 0, 0, 0, 0, 0, 0, 0, 0, 0, 0, 0, 0, 0, 0, 0, 0, 0, 0, 0, 0, 0, 0, 0, 0, 0, 0, 0, 0, 0, 0, 0, 0, 0, 0, 0, 0, 0, 0, 0, 0, 0, 0, 0, 0, 0, 0, 0, 0, 0, 0, 0, 0, 0, 0, 0, 0, 0, 0, 0, 0, 0, 0, 0, 0, 0, 0, 0, 0, 0, 0, 0, 0, 0, 0, 0, 0, 0, 0, 0, 0, 0, 0, 0, 0, 0, 0, 0, 0, 0, 0, 0, 0, 0, 0, 0, 0, 0, 0, 0, 0, 0, 0, 0, 0, 0, 0, 0, 0, 0, 0, 0, 0, 0, 0, 0, 0, 0, 0, 0, 0, 0, 0, 0, 0, 0, 0, 0, 0, 0, 0, 0, 0, 0, 0, 0, 0, 0, 0, 0, 0, 0, 0, 0, 0, 0, 0, 0, 0, 0, 0, 0, 0, 0, 0, 0, 0, 0, 0, 0, 0, 0, 0, 0, 0, 0, 0, 0, 0, 0, 0, 0, 0, 0, 0, 0, 0, 0, 0, 0, 0, 0, 0, 0, 0, 0, 0, 0, 0, 0, 0, 0, 0, 0, 0, 0, 0, 0, 0, 0, 0, 0, 0, 0, 0, 0, 0, 0, 0, 0, 0, 0, 0, 0, 0, 0, 0, 0, 0, 0, 0, 0, 0, (-100), 100, (-100), 100, (-100), 100, (-100), 100, 0, 0, 0, 0, 0, 0, 0, 0, 0, 0, 0, 0, 0, 0, 0, 0, 0, 0, 0, 0, 0, 0, 0, 0, 0, 0, 0, 0, 0, 0, 0, 0, 0, 0, 0, 0, 0, 0, 0, 0, 0, 0, 0, 0, 0, 0, 0, 0, 0, 0, 0, 0, 0, 0, 0, 0, 0, 0, 0, 0, 0, 0, 0, 0, 0, 0, 0, 0, 0, 0, 0, 0, 0, 0, 0, 0, 0, 0, 0, 0, 0, 0, 0, 0, 0, 0, 0, 0, 0, 0, 0, 0, 0, 0, 0, 0, 0, 0, 0, 0, 0, 0, 0, 0, 0, 0, 0, 0, 0, 0, 0, 0, 0, 0, 0, 0, 0, 0].set 892 x1)))).set 1 (.inr (0, .inl (([3, 0, 0, 0, 0, 0, 0, 0, 3, 5, 0, 0, 0, 0, 0, 0, 0, 100, 0, 0, (-1), 0, 0, 0, 0, 0, 0, 0, 0, 0, 0, 0, 0, 0, 0, 0, 0, 0, 0, 0, 0, 0, 1, 0, 0, 0, 0, 0, 0, 0, 0, 0, 0, 0, 0, 0, 0, 0, 0, 0, 0, 0, 0, 0, 0, 0, 0, 0, 0, 0, 0, 0, 0, 0, 0, 0, 0, 0, 0, 0, 0, 0, 1, 0, 0, 0, 0, 0, 0, 0, 0, 0, 0, 0, 0, 0, 0, 0, 0, 0, 0, 0, 0, 0, 0, 0, 0, 0, 0, 0, 0, 0, 0, 0, 0, 0, 0, 0, 0, 0, 0, 0, 1, 0, 0, 0, 0, 0, 0, 0, 0, 0, 0, 0, 0, 0, 0, 0, 0, 0, 0, 0, 0, 0, 0, 0, 0, 0, 0, 0, 0, 0, 0, 0, 0, 0, 0, 0, 0, 0, 0, 0, 1, 0, 0, 0, 0, 0, 0, 0, 0, 0, 0, 0, 0, 0, 0, 0, 0, 0, 0, 0, 0, 0, 0, 0, 0, 0, 0, 0, 0, 0, 0, 0, 0, 0, 0, 0, 0, 0, 0, 0, 0, 0, 0, 0, 0, 0, 0, 0, 0, 0, 0, 0, 0, 0, 0, 0, 0, 0, 0, 0, 0, 0, 0, 0, 0, 0, 0, 0, 0, 0, 0, 0, 0, 0, 0, 0, 0, 0, 0, 0, 0, 0, 0, 0, 0, 0, 0, 0, 0, 0, 0, 0, 0, 0, 0, 0, 0, 0, 0, 0, 0, 0, 0, 0, 0, 0, 0, 0, 0, 0, 0, 0, 0, 0, 0, 0, 0, 0, 0, 0, 0, 0, 0, 0, 0, 0, 0, 0, 0, 0, 0, 0, 0, 0, 0, 0, 0, 0, 0, 0, 0, 0, 0, 0, 0, 0, 0, 0, 0, 0, 0, 0, 0, 0, 0, 0, 0, 0, 0, 0, 0, 0, 0, 0, 0, 0, 0, 0, 0, 0, 0, 0, 0, 0, 0, 0, 0, 0, 0, 0, 0, 0, 0, 0, 0, 0, 0, 0, 0, 0, 0, 0, 0, 0, 0, 0, 0, 0, 0, 0, 0, 0, 0, 0, 0, 0, 0, 0, 0, 0, 0, 0, 0, 0, 0, 0, 0, 0, 0, 0, 0, 0, 0, 0, 0, 0, 0, 0, 0, 0, 0, 0, 0, 0, 0, 0, 0, 0, 0, 0, 0, 0, 0, 0, 0, 0, 0, 0, 0, 0, 0, 0, 0, 0, 0, 0, 0, 0, 0, 0, 0, 0, 0, 0, 0, 0, 0, 0, 0, 0, 0, 0, 0, 0, 0, 0, 0, 0, 0, 0, 0, 0, 0, 0, 0, 0, 0, 0, 0, 0, 0, 0, 0, 0, 0, 0, 0, 0, 0, 0, 0, 0, 0, 0, 0, 0, 0, 0, 0, 0, 0, 0, 0, 0, 0, 0, 0, 0, 0, 0, 0, 0, 0, 0, 0, 0, 0, 0, 0, 0, 0, 0, 0, 0, 0, 0, 0, 0, 0, 0, 0, 0, 0, 0, 0, 0, 0, 0, 0, 0, 0, 0, 0, 0, 0, 0, 0, 0, 0, 0, 0, 0, 0, 0, 0, 0, 0, 0, 0, 0, 0, 0, 0, 0, 0, 0, 0, 0, 0, 0, 0, 0, 0, 0, 0, 0, 0, 0, 0, 0, 0, 0, 0, 0, 0, 0, 0, 0, 0, 0, 0, 0, 0, 0, 0, 0, 0, 0, 0, 0, 0, 0, 0, 0, 0, 0, 0, 0, 0, 0, 0, 0, 0, 0, 0, 0, 0, 0, 0, 0, 0, 0, 0, 0, 0, 0, 0, 0, 0, 0, 0, 0, 0, 0, 0, 0, 0, 0, 0, 0, 0, 0, 0, 0, 0, 0, 0, 0, 0, 0, 0, 0, 0, 0, 0, 0, 0, 0, 0, 0, 0, 0, 0, 0, 0, 0, 0, 0, 0, 0, 0, 0, 0, 0, 0, 0, 0, 0, 0, 0, 0, 0, 0, 0, 0, 0, 0, 0, 0, 0, 0, 0, 0, 0, 0, 0, 0, 0, 0, 0, 0, 0, 0, 0, 0, 0, 0, 0, 0, 0, 0, 0, 0, 0, 0, 0, 0, 0, 0, 0, 0, 0, 0, 0, 0, 0, 0, 0, 0, 0, 0, 0, 0, 0, 0, 0, 0, 0, 0, 0, 0, 0, 0, 0, 0, 0, 0, 0, 0, 0, 0, 0, 0, 0, 0, 0, 0, 0, 0, 0, 0, 0, 0, 0, 0, 0, 0, 0, 0, 0, 0, 0, 0, 0, 0, 0, 0, 0, 0, 0, 0, 0, 0, 0, 0, 0, 0, 0, 0, 0, 0, 0, 0, 0, 0, 0, 0, 0, 0, 0, 0, 0, 0, 0, 0, 0, 0, 0, 0, 0, 0, 0, (-100), 100, (-100), 100, (-100), 100, (-100), 100, 0, 0, 0, 0, 0, 0, 0, 0, 0, 0, 0, 0, 0, 0, 0, 0, 0, 0, 0, 0, 0, 0, 0, 0, 0, 0, 0, 0, 0, 0, 0, 0, 0, 0, 0, 0, 0, 0, 0, 0, 0, 0, 0, 0, 0, 0, 0, 0, 0, 0, 0, 0, 0, 0, 0, 0, 0, 0, 0, 0, 0, 0, 0, 0, 0, 0, 0, 0, 0, 0, 0, 0, 0, 0, 0, 0, 0, 0, 0, 0, 0, 0, 0, 0, 0, 0, 0, 0, 0, 0, 0, 0, 0, 0, 0, 0, 0, 0, 0, 0, 0, 0, 0, 0, 0, 0, 0, 0, 0, 0, 0, 0, 0, 0, 0, 0, 0, 0].set 892 x1).set 7 1)))), 0, 0)) rfl ?_
        exact Ex.ret rfl rfl) (by decide)
set_option maxHeartbeats 8000000 in
set_option maxRecDepth 100000 in
theorem both_count (x1 : Int32) : BothI 141 225 [.int x1] := by
  by_cases h1 : (x1 : Int32) < 0
  ·
    exact mkI (x := (-2)) (c1 := 0) (s1 := 0) (c2 := 0) (s2 := 0) (by
      refine Rn.of (me := me141) rfl ⟨Nat.le_of_ble_eq_true rfl, rfl⟩ rfl ?_
      refine Ex.steps 1 (S' := (1, [.int x1], [(0, .ref 0), (1, .int x1)], hX, 0, 0)) rfl ?_
      refine Ex.tsLo rfl h1 rfl rfl ?_
      refine Ex.steps 1 (S' := (150, [.int (-2)], [(0, .ref 0), (1, .int x1)], hX, 0, 0)) rfl ?_
      exact Ex.ret rfl rfl) (by
      refine Rn.of (me := me225) rfl ⟨Nat.le_of_ble_eq_true rfl, rfl⟩ rfl ?_
      refine Ex.steps 3 (S' := (4, [.int 7, .int 0, .int x1], [(0, .ref 0), (1, .int x1)], hM, 0, 0)) rfl ?_
      refine Ex.call0 (as := [.int x1, .int 0, .int 7]) (rest := []) (r := (some (.int 0))) (c1 := 0) (s1 := 0) rfl rfl rfl rfl (by
        refine Rn.of (me := me145) rfl ⟨Nat.le_of_ble_eq_true rfl, rfl⟩ rfl ?_
        refine Ex.steps 2 (S' := (2, [.int 0, .int x1], [(0, .int x1), (1, .int 0), (2, .int 7)], [], 0, 0)) rfl ?_
        refine Ex.icmp rfl (cT_lt h1) rfl ?_
        refine Ex.steps 1 (S' := (15, [.int 0], [(0, .int x1), (1, .int 0), (2, .int 7)], [], 0, 0)) rfl ?_
        exact Ex.ret rfl rfl) ?_
      refine Ex.steps 2 (S' := (21, [.int (-2)], [(0, .ref 0), (1, .int x1)], hM, 0, 0)) rfl ?_
      exact Ex.ret rfl rfl) (by decide)
  ·
    by_cases h2 : (7 : Int32) < x1
    ·
      exact mkI (x := (-2)) (c1 := 0) (s1 := 0) (c2 := 0) (s2 := 0) (by
        refine Rn.of (me := me141) rfl ⟨Nat.le_of_ble_eq_true rfl, rfl⟩ rfl ?_
        refine Ex.steps 1 (S' := (1, [.int x1], [(0, .ref 0), (1, .int x1)], hX, 0, 0)) rfl ?_
        refine Ex.tsHi rfl h2 rfl rfl ?_
        refine Ex.steps 1 (S' := (150, [.int (-2)], [(0, .ref 0), (1, .int x1)], hX, 0, 0)) rfl ?_
        exact Ex.ret rfl rfl) (by
        refine Rn.of (me := me225) rfl ⟨Nat.le_of_ble_eq_true rfl, rfl⟩ rfl ?_
        refine Ex.steps 3 (S' := (4, [.int 7, .int 0, .int x1], [(0, .ref 0), (1, .int x1)], hM, 0, 0)) rfl ?_
        refine Ex.call0 (as := [.int x1, .int 0, .int 7]) (rest := []) (r := (some (.int 0))) (c1 := 0) (s1 := 0) rfl rfl rfl rfl (by
          refine Rn.of (me := me145) rfl ⟨Nat.le_of_ble_eq_true rfl, rfl⟩ rfl ?_
          refine Ex.steps 2 (S' := (2, [.int 0, .int x1], [(0, .int x1), (1, .int 0), (2, .int 7)], [], 0, 0)) rfl ?_
          refine Ex.icmp rfl (cF_lt h1) rfl ?_
          refine Ex.steps 2 (S' := (7, [.int 7, .int x1], [(0, .int x1), (1, .int 0), (2, .int 7)], [], 0, 0)) rfl ?_
          refine Ex.icmp rfl (cT_gt h2) rfl ?_
          refine Ex.steps 1 (S' := (15, [.int 0], [(0, .int x1), (1, .int 0), (2, .int 7)], [], 0, 0)) rfl ?_
          exact Ex.ret rfl rfl) ?_
        refine Ex.steps 2 (S' := (21, [.int (-2)], [(0, .ref 0), (1, .int x1)], hM, 0, 0)) rfl ?_
        exact Ex.ret rfl rfl) (by decide)
    ·
      obtain ⟨k3, hkk3, rfl⟩ := en_b (x := x1) (n := 7) (by decide) h1 h2
      match k3, hkk3 with
      | 0, _ =>
        show BothI 141 225 [.int 0]
        obtain ⟨hA, rA⟩ := closed (F := 56) (mi := 141) (as := [.ref 0, .int 0]) (σ := hX) (v := .int 3) (c := 0) (s := 0) (by decide +kernel)
        obtain ⟨hB, rB⟩ := closed (F := 70) (mi := 225) (as := [.ref 0, .int 0]) (σ := hM) (v := .int 3) (c := 0) (s := 0) (by decide +kernel)
        exact mkI rA rB (by decide)
      | 1, _ =>
        show BothI 141 225 [.int 1]
        obtain ⟨hA, rA⟩ := closed (F := 61) (mi := 141) (as := [.ref 0, .int 1]) (σ := hX) (v := .int 0) (c := 0) (s := 0) (by decide +kernel)
        obtain ⟨hB, rB⟩ := closed (F := 70) (mi := 225) (as := [.ref 0, .int 1]) (σ := hM) (v := .int 0) (c := 0) (s := 0) (by decide +kernel)
        exact mkI rA rB (by decide)
      | 2, _ =>
        show BothI 141 225 [.int 2]
        obtain ⟨hA, rA⟩ := closed (F := 57) (mi := 141) (as := [.ref 0, .int 2]) (σ := hX) (v := .int 0) (c := 0) (s := 0) (by decide +kernel)
        obtain ⟨hB, rB⟩ := closed (F := 70) (mi := 225) (as := [.ref 0, .int 2]) (σ := hM) (v := .int 0) (c := 0) (s := 0) (by decide +kernel)
        exact mkI rA rB (by decide)
      | 3, _ =>
        show BothI 141 225 [.int 3]
        obtain ⟨hA, rA⟩ := closed (F := 57) (mi := 141) (as := [.ref 0, .int 3]) (σ := hX) (v := .int 0) (c := 0) (s := 0) (by decide +kernel)
        obtain ⟨hB, rB⟩ := closed (F := 70) (mi := 225) (as := [.ref 0, .int 3]) (σ := hM) (v := .int 0) (c := 0) (s := 0) (by decide +kernel)
        exact mkI rA rB (by decide)
      | 4, _ =>
        show BothI 141 225 [.int 4]
        obtain ⟨hA, rA⟩ := closed (F := 57) (mi := 141) (as := [.ref 0, .int 4]) (σ := hX) (v := .int 0) (c := 0) (s := 0) (by decide +kernel)
        obtain ⟨hB, rB⟩ := closed (F := 70) (mi := 225) (as := [.ref 0, .int 4]) (σ := hM) (v := .int 0) (c := 0) (s := 0) (by decide +kernel)
        exact mkI rA rB (by decide)
      | 5, _ =>
        show BothI 141 225 [.int 5]
        obtain ⟨hA, rA⟩ := closed (F := 57) (mi := 141) (as := [.ref 0, .int 5]) (σ := hX) (v := .int 0) (c := 0) (s := 0) (by decide +kernel)
        obtain ⟨hB, rB⟩ := closed (F := 70) (mi := 225) (as := [.ref 0, .int 5]) (σ := hM) (v := .int 0) (c := 0) (s := 0) (by decide +kernel)
        exact mkI rA rB (by decide)
      | 6, _ =>
        show BothI 141 225 [.int 6]
        obtain ⟨hA, rA⟩ := closed (F := 63) (mi := 141) (as := [.ref 0, .int 6]) (σ := hX) (v := .int 0) (c := 0) (s := 0) (by decide +kernel)
        obtain ⟨hB, rB⟩ := closed (F := 70) (mi := 225) (as := [.ref 0, .int 6]) (σ := hM) (v := .int 0) (c := 0) (s := 0) (by decide +kernel)
        exact mkI rA rB (by decide)
      | 7, _ =>
        show BothI 141 225 [.int 7]
        obtain ⟨hA, rA⟩ := closed (F := 56) (mi := 141) (as := [.ref 0, .int 7]) (σ := hX) (v := .int 0) (c := 0) (s := 0) (by decide +kernel)
        obtain ⟨hB, rB⟩ := closed (F := 70) (mi := 225) (as := [.ref 0, .int 7]) (σ := hM) (v := .int 0) (c := 0) (s := 0) (by decide +kernel)
        exact mkI rA rB (by decide)
      | k3 + 8, h => exact absurd h (by omega)
