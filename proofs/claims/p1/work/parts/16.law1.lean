/-! ===== the law on six ints: one call ===== -/
def good (R : Res) : Prop := R.1 = some (.int 1) ∧ R.2.2.1 ≤ 600000 ∧ R.2.2.2 ≤ 7302250
/-- both answer alike -/
def Both (mx mm : Nat) (as : List Value) (v : Value) : Prop := ∃ (h1 h2 : SH) (c1 s1 c2 s2 : Nat), Rn 12 mx (.ref 0 :: as) hX (some v, h1, c1, s1) ∧ Rn 12 mm (.ref 0 :: as) hM (some v, h2, c2, s2) ∧ c1 ≤ 1000 ∧ s1 ≤ 100000 ∧ c2 ≤ 1000 ∧ s2 ≤ 100000
def BothI (mx mm : Nat) (as : List Value) : Prop := ∃ x : Int32, Both mx mm as (.int x)
def BothL (mx mm : Nat) (as : List Value) : Prop := ∃ x : Int64, Both mx mm as (.long x)
theorem okV_lt {n i : Nat} (h : i < n) : okV n (.ref i) = true := by
  show (decide (i < n) || i == sIdx) = true
  rw [decide_eq_true h]
  rfl
theorem okV_s {n : Nat} : okV n (.ref sIdx) = true := by
  show (decide (sIdx < n) || sIdx == sIdx) = true
  rw [beq_self_eq_true, Bool.or_true]
theorem lenXM : hXM.length = 77 := by decide +kernel
theorem J0_lt : ∀ j ∈ J0, j < 77 := by decide
theorem lenI0 : I0.length = 62 := by decide
theorem lenJ0 : J0.length = 15 := by decide
theorem okHXM : okH hXM := fun c hc => List.all_eq_true.mp okXM c hc
set_option maxHeartbeats 4000000 in
set_option maxRecDepth 100000 in
theorem law_calls {xs : List Int32} {k2 pc1 pc2 ix1 ix2 w1 w2 mx mm : Nat} {meX meM : ME} {as : List Value} {v : Value} (ha : ∀ v ∈ as, refsV v = []) (hv : refsV v = []) (B : Both mx mm as v)
    (m1 : meths[mx]? = some meX) (mk1 : mKd meX = 0 ∧ mOw meX = 0) (m2 : meths[mm]? = some meM) (mk2 : mKd meM = 0 ∧ mOw meM = 12)
    (g1 : tbGet tbLaw pc1 = some (.invokevirtual ix1, 3, 7, mx, as.length + 1, w1))
    (e2 : ∀ (σ : SH) (ca cb : Nat), nxtK (some xs) false 13 4 tbLaw k2 (pc1 + 3) [v] lv3 σ ca cb = some (pc2, as.reverse ++ [.ref 62, v], lv3, σ, ca, cb))
    (g2 : tbGet tbLaw pc2 = some (.invokevirtual ix2, 3, 7, mm, as.length + 1, w2))
    (hk : ∀ (σ : SH) (ca cb : Nat), ca ≤ 3000 → cb ≤ 300000 → ∃ R, LX xs (pc2 + 3, [v, v], lv3, σ, ca, cb) R ∧ good R) : ∃ R, LX xs (pc1, as.reverse ++ [.ref 0], lv3, hXM, 77, 6846) R ∧ good R := by
  obtain ⟨h1, h2, c1, s1, c2, s2, r1, r2, b1, b2, b3, b4⟩ := B
  have hasI : ∀ {n : Nat}, okSt n as := fun {n} x hx => by
    have := ha x hx
    cases x with
    | ref j => cases this
    | _ => rfl
  obtain ⟨o1, l1, -⟩ := r1.wf (fun c hc => List.all_eq_true.mp okX c hc) (okSt_cons (by decide +kernel) hasI)
  have lX : hX.length = 62 := by decide +kernel
  rw [lX] at l1
  have kX' := cutOk_ints kX ha
  have hP1ok : okH (paste hXM I0 h1) := paste_okH okHXM kX' (by rw [lenI0, l1]; omega) o1
  have hP1len : (paste hXM I0 h1).length = 77 + c1 := by rw [paste_len, lenXM, lenI0, l1]; omega
  have st : ∀ j ∈ J0, (paste hXM I0 h1)[j]? = hXM[j]? := fun j hj => paste_other (by rw [lenXM]; exact J0_lt j hj) (apart0 j hj)
  obtain ⟨q1, q2, q3⟩ := cut_stable iM kM st
  obtain ⟨R, hR, hg⟩ := hk (paste (paste hXM I0 h1) J0 h2) (77 + c1 + c2) (6846 + s1 + s2) (by omega) (by omega)
  refine ⟨R, ?_, hg⟩
  have cat : v.category ≤ 2 := by cases v <;> simp [Value.category]
  have okv : okV (77 + c1) v = true := by
    cases v with
    | ref j => cases hv
    | _ => rfl
  have e62 : okV (77 + c1) (.ref 62) = true := okV_lt (by omega)
  have e0 : okV (77 + c1) (.ref 0) = true := okV_lt (by omega)
  have es : okV (77 + c1) (.ref sIdx) = true := okV_s
  have okf : okFr (77 + c1) [v] lv3 = true := by
    simp only [okFr, lv3, List.all_cons, List.all_nil, okv, e62, e0, es, Bool.and_true]
    rfl
  refine Ex.callW (i := .invokevirtual ix1) (as := .ref 0 :: as) (rest := []) (I := I0) (as' := .ref 0 :: as) (h := hX) g1 rfl (callIn_int m1 mk1.1 (by rw [mk1.2]; decide) (fs := _) (by rw [mk1.2]; rfl) (by decide) (by rw [lenXM]; decide +kernel)) (cut_ints iX ha) (by rw [List.map_cons, map_ints ha]; rfl) sX kX' okHXM (by rw [lenXM, lenI0]; show _ < 1000000000; omega) r1 (fun _ _ _ _ => ?_)
  refine Ex.steps k2 (e2 (paste hXM I0 h1) (77 + c1) (6846 + s1)) ?_
  refine Ex.callW (i := .invokevirtual ix2) (as := .ref 62 :: as) (rest := [v]) (I := J0) (as' := .ref 0 :: as) (h := hM) g2 rfl (callIn_int (rest := [v]) m2 mk2.1 (by rw [mk2.2]; decide) (fs := _) (by rw [mk2.2, st 62 (by decide)]; rfl) (by show v.category + 0 ≤ 8; omega) (by rw [hP1len]; exact okf)) (cut_ints q1 ha) (by rw [List.map_cons, map_ints ha]; rfl) (q3.trans sM) (cutOk_ints q2 ha) hP1ok (by rw [hP1len, lenJ0]; show _ < 1000000000; omega) r2 (fun _ _ _ _ => ?_)
  exact hR
theorem law_eqI {x0 x1 x2 x3 x4 x5 : Int32} {pc : Nat} {off : Int} (x : Int32) (g3 : tbGet tbLaw pc = some (.if_icmp .eq off, 3, 2, 0, 0, 0)) (ht : jIf true pc off [] = some (1359, [])) : ∀ (σ : SH) (ca cb : Nat), ca ≤ 3000 → cb ≤ 300000 → ∃ R, LX [x0, x1, x2, x3, x4, x5] (pc, [.int x, .int x], lv3, σ, ca, cb) R ∧ good R := fun σ ca cb h1 h2 =>
  ⟨(some (.int 1), σ, ca, cb), Ex.icmp g3 (cT_eq rfl) ht law_tail, rfl, by show ca ≤ 600000; omega, by show cb ≤ 7302250; omega⟩
theorem law_eqL {x0 x1 x2 x3 x4 x5 : Int32} {pc : Nat} {off : Int} (x : Int64) (g0 : tbGet tbLaw pc = some (.lcmp, 1, 0, 0, 0, 0)) (g3 : tbGet tbLaw (pc + 1) = some (.ifCond .eq off, 3, 2, 0, 0, 0)) (ht : jIf true (pc + 1) off [] = some (1359, [])) : ∀ (σ : SH) (ca cb : Nat), ca ≤ 3000 → cb ≤ 300000 → ∃ R, LX [x0, x1, x2, x3, x4, x5] (pc, [.long x, .long x], lv3, σ, ca, cb) R ∧ good R := fun σ ca cb h1 h2 =>
  ⟨(some (.int 1), σ, ca, cb), Ex.step (S' := (pc + 1, [.int (lg_cmp x x)], lv3, σ, ca, cb)) (by simp only [nxt, g0, stepA, Option.map_some]) (Ex.ifc g3 (decide_eq_true ((lg_cmp_eq x x).mpr rfl)) ht law_tail), rfl, by show ca ≤ 600000; omega, by show cb ≤ 7302250; omega⟩
set_option maxRecDepth 100000 in
theorem law_0 {x0 x1 x2 x3 x4 x5 : Int32} (B : BothI 11 144 [.int x1]) : ∃ R, LX [x0, x1, x2, x3, x4, x5] (196, [], lv3, hXM, 77, 6846) R ∧ good R := by
  obtain ⟨x, B⟩ := B
  obtain ⟨R, h, g⟩ := law_calls (xs := [x0, x1, x2, x3, x4, x5]) (k2 := 6) (pc1 := 202) (pc2 := 211) (meX := me11) (meM := me144) (as := [.int x1]) (by simp [refsV]) rfl B rfl ⟨rfl, rfl⟩ rfl ⟨rfl, rfl⟩ rfl (fun _ _ _ => rfl) rfl (law_eqI x rfl rfl)
  exact ⟨R, Ex.steps 6 (S' := (202, [.int x1, .ref 0], lv3, hXM, 77, 6846)) rfl h, g⟩
set_option maxRecDepth 100000 in
theorem law_1 {x0 x1 x2 x3 x4 x5 : Int32} (B : BothI 15 146 [.int x1, .int x2, .int x3, .int x4]) : ∃ R, LX [x0, x1, x2, x3, x4, x5] (219, [], lv3, hXM, 77, 6846) R ∧ good R := by
  obtain ⟨x, B⟩ := B
  obtain ⟨R, h, g⟩ := law_calls (xs := [x0, x1, x2, x3, x4, x5]) (k2 := 21) (pc1 := 240) (pc2 := 264) (meX := me15) (meM := me146) (as := [.int x1, .int x2, .int x3, .int x4]) (by simp [refsV]) rfl B rfl ⟨rfl, rfl⟩ rfl ⟨rfl, rfl⟩ rfl (fun _ _ _ => rfl) rfl (law_eqI x rfl rfl)
  exact ⟨R, Ex.steps 21 (S' := (240, [.int x4, .int x3, .int x2, .int x1, .ref 0], lv3, hXM, 77, 6846)) rfl h, g⟩
set_option maxRecDepth 100000 in
theorem law_2 {x0 x1 x2 x3 x4 x5 : Int32} (B : BothI 19 149 [.int x1, .int x2, .int x3]) : ∃ R, LX [x0, x1, x2, x3, x4, x5] (272, [], lv3, hXM, 77, 6846) R ∧ good R := by
  obtain ⟨x, B⟩ := B
  obtain ⟨R, h, g⟩ := law_calls (xs := [x0, x1, x2, x3, x4, x5]) (k2 := 16) (pc1 := 288) (pc2 := 307) (meX := me19) (meM := me149) (as := [.int x1, .int x2, .int x3]) (by simp [refsV]) rfl B rfl ⟨rfl, rfl⟩ rfl ⟨rfl, rfl⟩ rfl (fun _ _ _ => rfl) rfl (law_eqI x rfl rfl)
  exact ⟨R, Ex.steps 16 (S' := (288, [.int x3, .int x2, .int x1, .ref 0], lv3, hXM, 77, 6846)) rfl h, g⟩
set_option maxRecDepth 100000 in
theorem law_3 {x0 x1 x2 x3 x4 x5 : Int32} (B : BothI 20 150 [.int x1, .int x2, .int x3]) : ∃ R, LX [x0, x1, x2, x3, x4, x5] (315, [], lv3, hXM, 77, 6846) R ∧ good R := by
  obtain ⟨x, B⟩ := B
  obtain ⟨R, h, g⟩ := law_calls (xs := [x0, x1, x2, x3, x4, x5]) (k2 := 16) (pc1 := 331) (pc2 := 350) (meX := me20) (meM := me150) (as := [.int x1, .int x2, .int x3]) (by simp [refsV]) rfl B rfl ⟨rfl, rfl⟩ rfl ⟨rfl, rfl⟩ rfl (fun _ _ _ => rfl) rfl (law_eqI x rfl rfl)
  exact ⟨R, Ex.steps 16 (S' := (331, [.int x3, .int x2, .int x1, .ref 0], lv3, hXM, 77, 6846)) rfl h, g⟩
set_option maxRecDepth 100000 in
theorem law_4 {x0 x1 x2 x3 x4 x5 : Int32} (B : BothI 23 151 []) : ∃ R, LX [x0, x1, x2, x3, x4, x5] (358, [], lv3, hXM, 77, 6846) R ∧ good R := by
  obtain ⟨x, B⟩ := B
  obtain ⟨R, h, g⟩ := law_calls (xs := [x0, x1, x2, x3, x4, x5]) (k2 := 1) (pc1 := 359) (pc2 := 363) (meX := me23) (meM := me151) (as := []) (by simp [refsV]) rfl B rfl ⟨rfl, rfl⟩ rfl ⟨rfl, rfl⟩ rfl (fun _ _ _ => rfl) rfl (law_eqI x rfl rfl)
  exact ⟨R, Ex.steps 1 (S' := (359, [.ref 0], lv3, hXM, 77, 6846)) rfl h, g⟩
set_option maxRecDepth 100000 in
theorem law_5 {x0 x1 x2 x3 x4 x5 : Int32} (B : BothI 24 152 [.int x1, .int x2, .int x3]) : ∃ R, LX [x0, x1, x2, x3, x4, x5] (371, [], lv3, hXM, 77, 6846) R ∧ good R := by
  obtain ⟨x, B⟩ := B
  obtain ⟨R, h, g⟩ := law_calls (xs := [x0, x1, x2, x3, x4, x5]) (k2 := 16) (pc1 := 387) (pc2 := 406) (meX := me24) (meM := me152) (as := [.int x1, .int x2, .int x3]) (by simp [refsV]) rfl B rfl ⟨rfl, rfl⟩ rfl ⟨rfl, rfl⟩ rfl (fun _ _ _ => rfl) rfl (law_eqI x rfl rfl)
  exact ⟨R, Ex.steps 16 (S' := (387, [.int x3, .int x2, .int x1, .ref 0], lv3, hXM, 77, 6846)) rfl h, g⟩
set_option maxRecDepth 100000 in
theorem law_6 {x0 x1 x2 x3 x4 x5 : Int32} (B : BothI 25 153 [.int x1, .int x2]) : ∃ R, LX [x0, x1, x2, x3, x4, x5] (414, [], lv3, hXM, 77, 6846) R ∧ good R := by
  obtain ⟨x, B⟩ := B
  obtain ⟨R, h, g⟩ := law_calls (xs := [x0, x1, x2, x3, x4, x5]) (k2 := 11) (pc1 := 425) (pc2 := 439) (meX := me25) (meM := me153) (as := [.int x1, .int x2]) (by simp [refsV]) rfl B rfl ⟨rfl, rfl⟩ rfl ⟨rfl, rfl⟩ rfl (fun _ _ _ => rfl) rfl (law_eqI x rfl rfl)
  exact ⟨R, Ex.steps 11 (S' := (425, [.int x2, .int x1, .ref 0], lv3, hXM, 77, 6846)) rfl h, g⟩
set_option maxRecDepth 100000 in
theorem law_7 {x0 x1 x2 x3 x4 x5 : Int32} (B : BothI 26 154 [.int x1, .int x2, .int x3, .int x4]) : ∃ R, LX [x0, x1, x2, x3, x4, x5] (447, [], lv3, hXM, 77, 6846) R ∧ good R := by
  obtain ⟨x, B⟩ := B
  obtain ⟨R, h, g⟩ := law_calls (xs := [x0, x1, x2, x3, x4, x5]) (k2 := 21) (pc1 := 468) (pc2 := 492) (meX := me26) (meM := me154) (as := [.int x1, .int x2, .int x3, .int x4]) (by simp [refsV]) rfl B rfl ⟨rfl, rfl⟩ rfl ⟨rfl, rfl⟩ rfl (fun _ _ _ => rfl) rfl (law_eqI x rfl rfl)
  exact ⟨R, Ex.steps 21 (S' := (468, [.int x4, .int x3, .int x2, .int x1, .ref 0], lv3, hXM, 77, 6846)) rfl h, g⟩
set_option maxRecDepth 100000 in
theorem law_8 {x0 x1 x2 x3 x4 x5 : Int32} (B : BothI 28 155 [.int x1, .int x2]) : ∃ R, LX [x0, x1, x2, x3, x4, x5] (500, [], lv3, hXM, 77, 6846) R ∧ good R := by
  obtain ⟨x, B⟩ := B
  obtain ⟨R, h, g⟩ := law_calls (xs := [x0, x1, x2, x3, x4, x5]) (k2 := 11) (pc1 := 511) (pc2 := 525) (meX := me28) (meM := me155) (as := [.int x1, .int x2]) (by simp [refsV]) rfl B rfl ⟨rfl, rfl⟩ rfl ⟨rfl, rfl⟩ rfl (fun _ _ _ => rfl) rfl (law_eqI x rfl rfl)
  exact ⟨R, Ex.steps 11 (S' := (511, [.int x2, .int x1, .ref 0], lv3, hXM, 77, 6846)) rfl h, g⟩
set_option maxRecDepth 100000 in
theorem law_9 {x0 x1 x2 x3 x4 x5 : Int32} (B : BothI 29 156 [.int x1, .int x2, .int x3]) : ∃ R, LX [x0, x1, x2, x3, x4, x5] (533, [], lv3, hXM, 77, 6846) R ∧ good R := by
  obtain ⟨x, B⟩ := B
  obtain ⟨R, h, g⟩ := law_calls (xs := [x0, x1, x2, x3, x4, x5]) (k2 := 16) (pc1 := 549) (pc2 := 568) (meX := me29) (meM := me156) (as := [.int x1, .int x2, .int x3]) (by simp [refsV]) rfl B rfl ⟨rfl, rfl⟩ rfl ⟨rfl, rfl⟩ rfl (fun _ _ _ => rfl) rfl (law_eqI x rfl rfl)
  exact ⟨R, Ex.steps 16 (S' := (549, [.int x3, .int x2, .int x1, .ref 0], lv3, hXM, 77, 6846)) rfl h, g⟩
set_option maxRecDepth 100000 in
theorem law_10 {x0 x1 x2 x3 x4 x5 : Int32} (B : BothI 30 157 [.int x1, .int x2, .int x3]) : ∃ R, LX [x0, x1, x2, x3, x4, x5] (576, [], lv3, hXM, 77, 6846) R ∧ good R := by
  obtain ⟨x, B⟩ := B
  obtain ⟨R, h, g⟩ := law_calls (xs := [x0, x1, x2, x3, x4, x5]) (k2 := 16) (pc1 := 592) (pc2 := 611) (meX := me30) (meM := me157) (as := [.int x1, .int x2, .int x3]) (by simp [refsV]) rfl B rfl ⟨rfl, rfl⟩ rfl ⟨rfl, rfl⟩ rfl (fun _ _ _ => rfl) rfl (law_eqI x rfl rfl)
  exact ⟨R, Ex.steps 16 (S' := (592, [.int x3, .int x2, .int x1, .ref 0], lv3, hXM, 77, 6846)) rfl h, g⟩
set_option maxRecDepth 100000 in
theorem law_11 {x0 x1 x2 x3 x4 x5 : Int32} (B : BothI 31 158 [.int x1]) : ∃ R, LX [x0, x1, x2, x3, x4, x5] (619, [], lv3, hXM, 77, 6846) R ∧ good R := by
  obtain ⟨x, B⟩ := B
  obtain ⟨R, h, g⟩ := law_calls (xs := [x0, x1, x2, x3, x4, x5]) (k2 := 6) (pc1 := 625) (pc2 := 634) (meX := me31) (meM := me158) (as := [.int x1]) (by simp [refsV]) rfl B rfl ⟨rfl, rfl⟩ rfl ⟨rfl, rfl⟩ rfl (fun _ _ _ => rfl) rfl (law_eqI x rfl rfl)
  exact ⟨R, Ex.steps 6 (S' := (625, [.int x1, .ref 0], lv3, hXM, 77, 6846)) rfl h, g⟩
set_option maxRecDepth 100000 in
theorem law_12 {x0 x1 x2 x3 x4 x5 : Int32} (B : BothI 46 159 []) : ∃ R, LX [x0, x1, x2, x3, x4, x5] (642, [], lv3, hXM, 77, 6846) R ∧ good R := by
  obtain ⟨x, B⟩ := B
  obtain ⟨R, h, g⟩ := law_calls (xs := [x0, x1, x2, x3, x4, x5]) (k2 := 1) (pc1 := 643) (pc2 := 647) (meX := me46) (meM := me159) (as := []) (by simp [refsV]) rfl B rfl ⟨rfl, rfl⟩ rfl ⟨rfl, rfl⟩ rfl (fun _ _ _ => rfl) rfl (law_eqI x rfl rfl)
  exact ⟨R, Ex.steps 1 (S' := (643, [.ref 0], lv3, hXM, 77, 6846)) rfl h, g⟩
set_option maxRecDepth 100000 in
theorem law_13 {x0 x1 x2 x3 x4 x5 : Int32} (B : BothI 48 160 []) : ∃ R, LX [x0, x1, x2, x3, x4, x5] (655, [], lv3, hXM, 77, 6846) R ∧ good R := by
  obtain ⟨x, B⟩ := B
  obtain ⟨R, h, g⟩ := law_calls (xs := [x0, x1, x2, x3, x4, x5]) (k2 := 1) (pc1 := 656) (pc2 := 660) (meX := me48) (meM := me160) (as := []) (by simp [refsV]) rfl B rfl ⟨rfl, rfl⟩ rfl ⟨rfl, rfl⟩ rfl (fun _ _ _ => rfl) rfl (law_eqI x rfl rfl)
  exact ⟨R, Ex.steps 1 (S' := (656, [.ref 0], lv3, hXM, 77, 6846)) rfl h, g⟩
set_option maxRecDepth 100000 in
theorem law_14 {x0 x1 x2 x3 x4 x5 : Int32} (B : BothI 49 169 [.int x1]) : ∃ R, LX [x0, x1, x2, x3, x4, x5] (668, [], lv3, hXM, 77, 6846) R ∧ good R := by
  obtain ⟨x, B⟩ := B
  obtain ⟨R, h, g⟩ := law_calls (xs := [x0, x1, x2, x3, x4, x5]) (k2 := 6) (pc1 := 674) (pc2 := 683) (meX := me49) (meM := me169) (as := [.int x1]) (by simp [refsV]) rfl B rfl ⟨rfl, rfl⟩ rfl ⟨rfl, rfl⟩ rfl (fun _ _ _ => rfl) rfl (law_eqI x rfl rfl)
  exact ⟨R, Ex.steps 6 (S' := (674, [.int x1, .ref 0], lv3, hXM, 77, 6846)) rfl h, g⟩
set_option maxRecDepth 100000 in
theorem law_15 {x0 x1 x2 x3 x4 x5 : Int32} (B : BothI 88 196 [.int x1]) : ∃ R, LX [x0, x1, x2, x3, x4, x5] (691, [], lv3, hXM, 77, 6846) R ∧ good R := by
  obtain ⟨x, B⟩ := B
  obtain ⟨R, h, g⟩ := law_calls (xs := [x0, x1, x2, x3, x4, x5]) (k2 := 6) (pc1 := 697) (pc2 := 706) (meX := me88) (meM := me196) (as := [.int x1]) (by simp [refsV]) rfl B rfl ⟨rfl, rfl⟩ rfl ⟨rfl, rfl⟩ rfl (fun _ _ _ => rfl) rfl (law_eqI x rfl rfl)
  exact ⟨R, Ex.steps 6 (S' := (697, [.int x1, .ref 0], lv3, hXM, 77, 6846)) rfl h, g⟩
set_option maxRecDepth 100000 in
theorem law_16 {x0 x1 x2 x3 x4 x5 : Int32} (B : BothI 89 198 [.int x1, .int x2]) : ∃ R, LX [x0, x1, x2, x3, x4, x5] (714, [], lv3, hXM, 77, 6846) R ∧ good R := by
  obtain ⟨x, B⟩ := B
  obtain ⟨R, h, g⟩ := law_calls (xs := [x0, x1, x2, x3, x4, x5]) (k2 := 11) (pc1 := 725) (pc2 := 739) (meX := me89) (meM := me198) (as := [.int x1, .int x2]) (by simp [refsV]) rfl B rfl ⟨rfl, rfl⟩ rfl ⟨rfl, rfl⟩ rfl (fun _ _ _ => rfl) rfl (law_eqI x rfl rfl)
  exact ⟨R, Ex.steps 11 (S' := (725, [.int x2, .int x1, .ref 0], lv3, hXM, 77, 6846)) rfl h, g⟩
set_option maxRecDepth 100000 in
theorem law_17 {x0 x1 x2 x3 x4 x5 : Int32} (B : BothI 91 199 [.int x1, .int x2]) : ∃ R, LX [x0, x1, x2, x3, x4, x5] (747, [], lv3, hXM, 77, 6846) R ∧ good R := by
  obtain ⟨x, B⟩ := B
  obtain ⟨R, h, g⟩ := law_calls (xs := [x0, x1, x2, x3, x4, x5]) (k2 := 11) (pc1 := 758) (pc2 := 772) (meX := me91) (meM := me199) (as := [.int x1, .int x2]) (by simp [refsV]) rfl B rfl ⟨rfl, rfl⟩ rfl ⟨rfl, rfl⟩ rfl (fun _ _ _ => rfl) rfl (law_eqI x rfl rfl)
  exact ⟨R, Ex.steps 11 (S' := (758, [.int x2, .int x1, .ref 0], lv3, hXM, 77, 6846)) rfl h, g⟩
set_option maxRecDepth 100000 in
theorem law_18 {x0 x1 x2 x3 x4 x5 : Int32} (B : BothI 92 200 [.int x1, .int x2]) : ∃ R, LX [x0, x1, x2, x3, x4, x5] (780, [], lv3, hXM, 77, 6846) R ∧ good R := by
  obtain ⟨x, B⟩ := B
  obtain ⟨R, h, g⟩ := law_calls (xs := [x0, x1, x2, x3, x4, x5]) (k2 := 11) (pc1 := 791) (pc2 := 805) (meX := me92) (meM := me200) (as := [.int x1, .int x2]) (by simp [refsV]) rfl B rfl ⟨rfl, rfl⟩ rfl ⟨rfl, rfl⟩ rfl (fun _ _ _ => rfl) rfl (law_eqI x rfl rfl)
  exact ⟨R, Ex.steps 11 (S' := (791, [.int x2, .int x1, .ref 0], lv3, hXM, 77, 6846)) rfl h, g⟩
set_option maxRecDepth 100000 in
theorem law_19 {x0 x1 x2 x3 x4 x5 : Int32} (B : BothI 93 201 [.int x1]) : ∃ R, LX [x0, x1, x2, x3, x4, x5] (813, [], lv3, hXM, 77, 6846) R ∧ good R := by
  obtain ⟨x, B⟩ := B
  obtain ⟨R, h, g⟩ := law_calls (xs := [x0, x1, x2, x3, x4, x5]) (k2 := 6) (pc1 := 819) (pc2 := 828) (meX := me93) (meM := me201) (as := [.int x1]) (by simp [refsV]) rfl B rfl ⟨rfl, rfl⟩ rfl ⟨rfl, rfl⟩ rfl (fun _ _ _ => rfl) rfl (law_eqI x rfl rfl)
  exact ⟨R, Ex.steps 6 (S' := (819, [.int x1, .ref 0], lv3, hXM, 77, 6846)) rfl h, g⟩
set_option maxRecDepth 100000 in
theorem law_20 {x0 x1 x2 x3 x4 x5 : Int32} (B : BothI 94 202 [.int x1, .int x2, .int x3, .int x4, .int x5]) : ∃ R, LX [x0, x1, x2, x3, x4, x5] (836, [], lv3, hXM, 77, 6846) R ∧ good R := by
  obtain ⟨x, B⟩ := B
  obtain ⟨R, h, g⟩ := law_calls (xs := [x0, x1, x2, x3, x4, x5]) (k2 := 26) (pc1 := 862) (pc2 := 891) (meX := me94) (meM := me202) (as := [.int x1, .int x2, .int x3, .int x4, .int x5]) (by simp [refsV]) rfl B rfl ⟨rfl, rfl⟩ rfl ⟨rfl, rfl⟩ rfl (fun _ _ _ => rfl) rfl (law_eqI x rfl rfl)
  exact ⟨R, Ex.steps 26 (S' := (862, [.int x5, .int x4, .int x3, .int x2, .int x1, .ref 0], lv3, hXM, 77, 6846)) rfl h, g⟩
set_option maxRecDepth 100000 in
theorem law_21 {x0 x1 x2 x3 x4 x5 : Int32} (B : BothI 96 203 [.int x1, .int x2, .int x3, .int x4]) : ∃ R, LX [x0, x1, x2, x3, x4, x5] (899, [], lv3, hXM, 77, 6846) R ∧ good R := by
  obtain ⟨x, B⟩ := B
  obtain ⟨R, h, g⟩ := law_calls (xs := [x0, x1, x2, x3, x4, x5]) (k2 := 21) (pc1 := 920) (pc2 := 944) (meX := me96) (meM := me203) (as := [.int x1, .int x2, .int x3, .int x4]) (by simp [refsV]) rfl B rfl ⟨rfl, rfl⟩ rfl ⟨rfl, rfl⟩ rfl (fun _ _ _ => rfl) rfl (law_eqI x rfl rfl)
  exact ⟨R, Ex.steps 21 (S' := (920, [.int x4, .int x3, .int x2, .int x1, .ref 0], lv3, hXM, 77, 6846)) rfl h, g⟩
set_option maxRecDepth 100000 in
theorem law_22 {x0 x1 x2 x3 x4 x5 : Int32} (B : BothI 97 204 []) : ∃ R, LX [x0, x1, x2, x3, x4, x5] (952, [], lv3, hXM, 77, 6846) R ∧ good R := by
  obtain ⟨x, B⟩ := B
  obtain ⟨R, h, g⟩ := law_calls (xs := [x0, x1, x2, x3, x4, x5]) (k2 := 1) (pc1 := 953) (pc2 := 957) (meX := me97) (meM := me204) (as := []) (by simp [refsV]) rfl B rfl ⟨rfl, rfl⟩ rfl ⟨rfl, rfl⟩ rfl (fun _ _ _ => rfl) rfl (law_eqI x rfl rfl)
  exact ⟨R, Ex.steps 1 (S' := (953, [.ref 0], lv3, hXM, 77, 6846)) rfl h, g⟩
set_option maxRecDepth 100000 in
theorem law_23 {x0 x1 x2 x3 x4 x5 : Int32} (B : BothI 98 205 [.int x1]) : ∃ R, LX [x0, x1, x2, x3, x4, x5] (965, [], lv3, hXM, 77, 6846) R ∧ good R := by
  obtain ⟨x, B⟩ := B
  obtain ⟨R, h, g⟩ := law_calls (xs := [x0, x1, x2, x3, x4, x5]) (k2 := 6) (pc1 := 971) (pc2 := 980) (meX := me98) (meM := me205) (as := [.int x1]) (by simp [refsV]) rfl B rfl ⟨rfl, rfl⟩ rfl ⟨rfl, rfl⟩ rfl (fun _ _ _ => rfl) rfl (law_eqI x rfl rfl)
  exact ⟨R, Ex.steps 6 (S' := (971, [.int x1, .ref 0], lv3, hXM, 77, 6846)) rfl h, g⟩
set_option maxRecDepth 100000 in
theorem law_24 {x0 x1 x2 x3 x4 x5 : Int32} (B : BothI 100 207 [.int x1, .int x2]) : ∃ R, LX [x0, x1, x2, x3, x4, x5] (988, [], lv3, hXM, 77, 6846) R ∧ good R := by
  obtain ⟨x, B⟩ := B
  obtain ⟨R, h, g⟩ := law_calls (xs := [x0, x1, x2, x3, x4, x5]) (k2 := 11) (pc1 := 999) (pc2 := 1013) (meX := me100) (meM := me207) (as := [.int x1, .int x2]) (by simp [refsV]) rfl B rfl ⟨rfl, rfl⟩ rfl ⟨rfl, rfl⟩ rfl (fun _ _ _ => rfl) rfl (law_eqI x rfl rfl)
  exact ⟨R, Ex.steps 11 (S' := (999, [.int x2, .int x1, .ref 0], lv3, hXM, 77, 6846)) rfl h, g⟩
set_option maxRecDepth 100000 in
theorem law_25 {x0 x1 x2 x3 x4 x5 : Int32} (B : BothI 101 208 [.int x1, .int x2, .int x3, .int x4, .int x5]) : ∃ R, LX [x0, x1, x2, x3, x4, x5] (1021, [], lv3, hXM, 77, 6846) R ∧ good R := by
  obtain ⟨x, B⟩ := B
  obtain ⟨R, h, g⟩ := law_calls (xs := [x0, x1, x2, x3, x4, x5]) (k2 := 26) (pc1 := 1047) (pc2 := 1076) (meX := me101) (meM := me208) (as := [.int x1, .int x2, .int x3, .int x4, .int x5]) (by simp [refsV]) rfl B rfl ⟨rfl, rfl⟩ rfl ⟨rfl, rfl⟩ rfl (fun _ _ _ => rfl) rfl (law_eqI x rfl rfl)
  exact ⟨R, Ex.steps 26 (S' := (1047, [.int x5, .int x4, .int x3, .int x2, .int x1, .ref 0], lv3, hXM, 77, 6846)) rfl h, g⟩
set_option maxRecDepth 100000 in
theorem law_26 {x0 x1 x2 x3 x4 x5 : Int32} (B : BothI 113 214 [.int x1, .int x2, .int x3]) : ∃ R, LX [x0, x1, x2, x3, x4, x5] (1084, [], lv3, hXM, 77, 6846) R ∧ good R := by
  obtain ⟨x, B⟩ := B
  obtain ⟨R, h, g⟩ := law_calls (xs := [x0, x1, x2, x3, x4, x5]) (k2 := 16) (pc1 := 1100) (pc2 := 1119) (meX := me113) (meM := me214) (as := [.int x1, .int x2, .int x3]) (by simp [refsV]) rfl B rfl ⟨rfl, rfl⟩ rfl ⟨rfl, rfl⟩ rfl (fun _ _ _ => rfl) rfl (law_eqI x rfl rfl)
  exact ⟨R, Ex.steps 16 (S' := (1100, [.int x3, .int x2, .int x1, .ref 0], lv3, hXM, 77, 6846)) rfl h, g⟩
set_option maxRecDepth 100000 in
theorem law_27 {x0 x1 x2 x3 x4 x5 : Int32} (B : BothI 116 215 [.int x1]) : ∃ R, LX [x0, x1, x2, x3, x4, x5] (1127, [], lv3, hXM, 77, 6846) R ∧ good R := by
  obtain ⟨x, B⟩ := B
  obtain ⟨R, h, g⟩ := law_calls (xs := [x0, x1, x2, x3, x4, x5]) (k2 := 6) (pc1 := 1133) (pc2 := 1142) (meX := me116) (meM := me215) (as := [.int x1]) (by simp [refsV]) rfl B rfl ⟨rfl, rfl⟩ rfl ⟨rfl, rfl⟩ rfl (fun _ _ _ => rfl) rfl (law_eqI x rfl rfl)
  exact ⟨R, Ex.steps 6 (S' := (1133, [.int x1, .ref 0], lv3, hXM, 77, 6846)) rfl h, g⟩
set_option maxRecDepth 100000 in
theorem law_28 {x0 x1 x2 x3 x4 x5 : Int32} (B : BothI 117 216 []) : ∃ R, LX [x0, x1, x2, x3, x4, x5] (1150, [], lv3, hXM, 77, 6846) R ∧ good R := by
  obtain ⟨x, B⟩ := B
  obtain ⟨R, h, g⟩ := law_calls (xs := [x0, x1, x2, x3, x4, x5]) (k2 := 1) (pc1 := 1151) (pc2 := 1155) (meX := me117) (meM := me216) (as := []) (by simp [refsV]) rfl B rfl ⟨rfl, rfl⟩ rfl ⟨rfl, rfl⟩ rfl (fun _ _ _ => rfl) rfl (law_eqI x rfl rfl)
  exact ⟨R, Ex.steps 1 (S' := (1151, [.ref 0], lv3, hXM, 77, 6846)) rfl h, g⟩
set_option maxRecDepth 100000 in
theorem law_29 {x0 x1 x2 x3 x4 x5 : Int32} (B : BothI 118 217 []) : ∃ R, LX [x0, x1, x2, x3, x4, x5] (1163, [], lv3, hXM, 77, 6846) R ∧ good R := by
  obtain ⟨x, B⟩ := B
  obtain ⟨R, h, g⟩ := law_calls (xs := [x0, x1, x2, x3, x4, x5]) (k2 := 1) (pc1 := 1164) (pc2 := 1168) (meX := me118) (meM := me217) (as := []) (by simp [refsV]) rfl B rfl ⟨rfl, rfl⟩ rfl ⟨rfl, rfl⟩ rfl (fun _ _ _ => rfl) rfl (law_eqI x rfl rfl)
  exact ⟨R, Ex.steps 1 (S' := (1164, [.ref 0], lv3, hXM, 77, 6846)) rfl h, g⟩
set_option maxRecDepth 100000 in
theorem law_30 {x0 x1 x2 x3 x4 x5 : Int32} (B : BothI 123 219 [.int x1, .int x2]) : ∃ R, LX [x0, x1, x2, x3, x4, x5] (1176, [], lv3, hXM, 77, 6846) R ∧ good R := by
  obtain ⟨x, B⟩ := B
  obtain ⟨R, h, g⟩ := law_calls (xs := [x0, x1, x2, x3, x4, x5]) (k2 := 11) (pc1 := 1187) (pc2 := 1201) (meX := me123) (meM := me219) (as := [.int x1, .int x2]) (by simp [refsV]) rfl B rfl ⟨rfl, rfl⟩ rfl ⟨rfl, rfl⟩ rfl (fun _ _ _ => rfl) rfl (law_eqI x rfl rfl)
  exact ⟨R, Ex.steps 11 (S' := (1187, [.int x2, .int x1, .ref 0], lv3, hXM, 77, 6846)) rfl h, g⟩
set_option maxRecDepth 100000 in
theorem law_31 {x0 x1 x2 x3 x4 x5 : Int32} (B : BothI 128 221 [.int x1, .int x2, .int x3]) : ∃ R, LX [x0, x1, x2, x3, x4, x5] (1209, [], lv3, hXM, 77, 6846) R ∧ good R := by
  obtain ⟨x, B⟩ := B
  obtain ⟨R, h, g⟩ := law_calls (xs := [x0, x1, x2, x3, x4, x5]) (k2 := 16) (pc1 := 1225) (pc2 := 1244) (meX := me128) (meM := me221) (as := [.int x1, .int x2, .int x3]) (by simp [refsV]) rfl B rfl ⟨rfl, rfl⟩ rfl ⟨rfl, rfl⟩ rfl (fun _ _ _ => rfl) rfl (law_eqI x rfl rfl)
  exact ⟨R, Ex.steps 16 (S' := (1225, [.int x3, .int x2, .int x1, .ref 0], lv3, hXM, 77, 6846)) rfl h, g⟩
set_option maxRecDepth 100000 in
theorem law_32 {x0 x1 x2 x3 x4 x5 : Int32} (B : BothL 129 222 [.int x1]) : ∃ R, LX [x0, x1, x2, x3, x4, x5] (1252, [], lv3, hXM, 77, 6846) R ∧ good R := by
  obtain ⟨x, B⟩ := B
  obtain ⟨R, h, g⟩ := law_calls (xs := [x0, x1, x2, x3, x4, x5]) (k2 := 6) (pc1 := 1258) (pc2 := 1267) (meX := me129) (meM := me222) (as := [.int x1]) (by simp [refsV]) rfl B rfl ⟨rfl, rfl⟩ rfl ⟨rfl, rfl⟩ rfl (fun _ _ _ => rfl) rfl (law_eqL x rfl rfl rfl)
  exact ⟨R, Ex.steps 6 (S' := (1258, [.int x1, .ref 0], lv3, hXM, 77, 6846)) rfl h, g⟩
set_option maxRecDepth 100000 in
theorem law_33 {x0 x1 x2 x3 x4 x5 : Int32} (B : BothI 133 223 [.int x1]) : ∃ R, LX [x0, x1, x2, x3, x4, x5] (1276, [], lv3, hXM, 77, 6846) R ∧ good R := by
  obtain ⟨x, B⟩ := B
  obtain ⟨R, h, g⟩ := law_calls (xs := [x0, x1, x2, x3, x4, x5]) (k2 := 6) (pc1 := 1282) (pc2 := 1291) (meX := me133) (meM := me223) (as := [.int x1]) (by simp [refsV]) rfl B rfl ⟨rfl, rfl⟩ rfl ⟨rfl, rfl⟩ rfl (fun _ _ _ => rfl) rfl (law_eqI x rfl rfl)
  exact ⟨R, Ex.steps 6 (S' := (1282, [.int x1, .ref 0], lv3, hXM, 77, 6846)) rfl h, g⟩
set_option maxRecDepth 100000 in
theorem law_34 {x0 x1 x2 x3 x4 x5 : Int32} (B : BothI 140 224 [.int x1]) : ∃ R, LX [x0, x1, x2, x3, x4, x5] (1299, [], lv3, hXM, 77, 6846) R ∧ good R := by
  obtain ⟨x, B⟩ := B
  obtain ⟨R, h, g⟩ := law_calls (xs := [x0, x1, x2, x3, x4, x5]) (k2 := 6) (pc1 := 1305) (pc2 := 1314) (meX := me140) (meM := me224) (as := [.int x1]) (by simp [refsV]) rfl B rfl ⟨rfl, rfl⟩ rfl ⟨rfl, rfl⟩ rfl (fun _ _ _ => rfl) rfl (law_eqI x rfl rfl)
  exact ⟨R, Ex.steps 6 (S' := (1305, [.int x1, .ref 0], lv3, hXM, 77, 6846)) rfl h, g⟩
set_option maxRecDepth 100000 in
theorem law_35 {x0 x1 x2 x3 x4 x5 : Int32} (B : BothI 141 225 [.int x1]) : ∃ R, LX [x0, x1, x2, x3, x4, x5] (1322, [], lv3, hXM, 77, 6846) R ∧ good R := by
  obtain ⟨x, B⟩ := B
  obtain ⟨R, h, g⟩ := law_calls (xs := [x0, x1, x2, x3, x4, x5]) (k2 := 6) (pc1 := 1328) (pc2 := 1337) (meX := me141) (meM := me225) (as := [.int x1]) (by simp [refsV]) rfl B rfl ⟨rfl, rfl⟩ rfl ⟨rfl, rfl⟩ rfl (fun _ _ _ => rfl) rfl (law_eqI x rfl rfl)
  exact ⟨R, Ex.steps 6 (S' := (1328, [.int x1, .ref 0], lv3, hXM, 77, 6846)) rfl h, g⟩
set_option maxRecDepth 100000 in
theorem law_36 {x0 x1 x2 x3 x4 x5 : Int32} (B : BothL 142 226 []) : ∃ R, LX [x0, x1, x2, x3, x4, x5] (1345, [], lv3, hXM, 77, 6846) R ∧ good R := by
  obtain ⟨x, B⟩ := B
  obtain ⟨R, h, g⟩ := law_calls (xs := [x0, x1, x2, x3, x4, x5]) (k2 := 1) (pc1 := 1346) (pc2 := 1350) (meX := me142) (meM := me226) (as := []) (by simp [refsV]) rfl B rfl ⟨rfl, rfl⟩ rfl ⟨rfl, rfl⟩ rfl (fun _ _ _ => rfl) rfl (law_eqL x rfl rfl rfl)
  exact ⟨R, Ex.steps 1 (S' := (1346, [.ref 0], lv3, hXM, 77, 6846)) rfl h, g⟩
