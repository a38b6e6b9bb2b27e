/-! ===== the law by the runner ===== -/
noncomputable def finL (G : List Ln) : FN := fun r _ _ tab fs ca cb => match r with
  | some (.inl (false, e)) => bif eqL tab fs e (kL 1) then (bif Nat.ble ca 300000 then Nat.ble cb 3000000 else false) else false
  | _ => false
noncomputable def QL (R : Res) : Prop := R.1 = some (.int 1) ∧ R.2.2.1 ≤ 300000 ∧ R.2.2.2 ≤ 3000000
theorem finL_ok {PP : Nat → List (List Int32) → List Int → Prop} {G0 : List Int} (G : List Ln) : FinOk PP G G0 QL (finL G) := by
  intro ρ r A pr tab fs ca cb v σ cca ccb h ht hf hv hA hG hp h1 h2
  unfold finL at h
  split at h
  · rename_i e
    obtain ⟨c1, c2⟩ := cand h
    obtain ⟨c3, c4⟩ := cand c2
    cases v with
    | none => exact hv.elim
    | some v =>
      obtain ⟨x, e1, hx⟩ := vI_inv hv.1
      subst e1
      have h3 := eqL_ok ht hf c1
      rw [ev_k, ← hx] at h3
      have h4 : x = 1 := by
        rw [← ofInt32 x, h3]
        rfl
      subst h4
      exact ⟨rfl, Nat.le_trans h1 (Nat.le_of_ble_eq_true c3), Nat.le_trans h2 (Nat.le_of_ble_eq_true c4)⟩
  · cases h
noncomputable def noAA (tb : List (List (Option XE))) : Bool := tb.all fun r => r.all fun e => match e with
  | some (.aaload, _) => false
  | _ => true
set_option maxRecDepth 100000 in
theorem tbLaw_noAA : noAA tbLaw = true := by decide +kernel
theorem law_sn : ∀ pc en, tbGet tbLaw pc = some en → en.1 ≠ .aaload := by
  intro pc en h
  obtain ⟨-, r, hr, he⟩ := tbGet_mem h
  have h1 := List.all_eq_true.mp (List.all_eq_true.mp tbLaw_noAA r hr) _ he
  obtain ⟨i, q⟩ := en
  intro hi
  try dsimp only at hi
  subst hi
  cases h1
noncomputable def lawW : List Ln := [sL 1, sL 2, sL 3, sL 4, sL 5, sL 6]
noncomputable def lawT (N : Nat) : TbL := [(0, .ofNat 0, .ofNat N), (1, lo32, hi32), (2, lo32, hi32), (3, lo32, hi32), (4, lo32, hi32), (5, lo32, hi32), (6, lo32, hi32)]
/-- the first six ints of the script are the symbols 1 .. 6 -/
noncomputable def enLaw (N : Nat) (env : List Ct) (pts : List PE) (fuel : Nat) : Bool := go (some (sL 0, kL 0, lawW)) false 13 4 tbLaw env pts (sL 0 :: kL 0 :: lawW) none (finL (sL 0 :: kL 0 :: lawW)) noH fuel true 0 [] [(0, .inr (.inl (some sIdx)))] [] [] 7 (tbOf (lawT N)) [] 0 0
noncomputable def ptLaw (env : List Ct) (pts : List PE) (fuel : Nat) (p : PE) : Bool := bif rkNn p then runPt true false 13 4 tbLaw env pts finL noH fuel p else false
set_option maxHeartbeats 4000000 in
theorem law_ok {PP : Nat → List (List Int32) → List Int → Prop} (hFP : FPok PP) {N fuel : Nat} {env : List Ct} {pts : List PE} (hN : N < 2 ^ 31) (hE : ∀ C ∈ env, ValidC PP C ∧ C.2.1 ≤ 799) (h : enLaw N env (pts ++ []) fuel = true) (hp : ∀ p ∈ pts, ptLaw env (pts ++ []) fuel p = true) (xs : List Int32) (hxs : xs.length ≤ N) : lawRuns xs := by
  generalize hr : (fun s => if s = 0 then (xs.length : Int) else (xs.getD (s - 1) 0).toInt : Nat → Int) = ρ0
  have r0 : ρ0 0 = (xs.length : Int) := by rw [← hr]; rfl
  have r1 : ∀ s, s ≠ 0 → ρ0 s = (xs.getD (s - 1) 0).toInt := fun s hs => by rw [← hr]; exact if_neg hs
  have hw : ∀ (c : Nat) (w : Ln), lawW[c]? = some w → ev ρ0 w = (xs.getD c 0).toInt := fun c w h => by
    match c, h with
    | 0, h => cases h; rw [ev_s, r1 1 (by decide)]
    | 1, h => cases h; rw [ev_s, r1 2 (by decide)]
    | 2, h => cases h; rw [ev_s, r1 3 (by decide)]
    | 3, h => cases h; rw [ev_s, r1 4 (by decide)]
    | 4, h => cases h; rw [ev_s, r1 5 (by decide)]
    | 5, h => cases h; rw [ev_s, r1 6 (by decide)]
  have hS : scG true (some xs) ((xs.length : Int) :: 0 :: lawW.map (ev ρ0)) := by
    refine ⟨rfl, by omega, 0, _, rfl, fun c v hv k hk hlt => ?_⟩
    rw [List.getElem?_map] at hv
    cases hc : lawW[c]? with
    | none => rw [hc] at hv; cases hv
    | some w =>
      rw [hc] at hv
      cases hv
      rw [hw c w hc]
      have : k = c := by omega
      rw [this]
  have hpts := pts_ok (PP := PP) hFP noH_ok (scr := some xs) (ini := false) (o := 13) (nL := 4) (tb := tbLaw) (G0 := ((xs.length : Int) :: 0 :: lawW.map (ev ρ0))) (Q := QL) (d := 799) (law := true) (ext := []) (fuel := fuel) (fin := finL) hS finL_ok hE (Or.inr law_sn) (fun p hq => (by cases hq)) (fun p hq => ⟨(cand (hp p hq)).1, _, fun _ h => h, (cand (hp p hq)).2⟩)
  have hgood := go_ok (PP := PP) hFP noH_ok (scr := some xs) (scl := some (sL 0, kL 0, lawW)) (G0 := ((xs.length : Int) :: 0 :: lawW.map (ev ρ0))) (rk := none) (K := 0) (finL_ok (sL 0 :: kL 0 :: lawW)) hE (Or.inr law_sn) (fun p hq => by
    intro ρ1 cst1 qs1 clv1 cσ1 cca1 ccb1 a1 a2 a3 a4 a5 a6 a7 a8
    exact hpts p hq ρ1 cst1 qs1 clv1 cσ1 cca1 ccb1 a1 a2 a3 a4 a5 trivial a7 a8) fuel true ρ0 _ _ _ _ _ _ _ _ _ _ [] [(0, .ref sIdx)] [] 0 0 h ⟨fun ρ' ha => ?_, fun _ _ p hq => (by cases hq), ?_⟩ (Nat.le_refl _) (Nat.le_refl _)
  · obtain ⟨R, ⟨F, n, kc, ks, he, e1, e2⟩, hq1, hq2, hq3⟩ := hgood
    try dsimp only at he e1 e2
    rw [Nat.zero_add] at e1 e2
    obtain ⟨r, σ', a, b⟩ := R
    try dsimp only at hq1 hq2 hq3 e1 e2 he
    subst hq1
    exact ⟨F, 799, n, σ', kc, ks, he, by decide, by omega, by omega⟩
  · have h0 : ρ' 0 = (xs.length : Int) := (ha 0 (by decide)).trans r0
    have hW : lawW.map (ev ρ') = lawW.map (ev ρ0) := by
      simp only [lawW, List.map_cons, List.map_nil, ev_s, ha 1 (by decide), ha 2 (by decide), ha 3 (by decide), ha 4 (by decide), ha 5 (by decide), ha 6 (by decide)]
    have hin : ∀ s, s ≠ 0 → s < 7 → lo32 ≤ ρ' s ∧ ρ' s ≤ hi32 := fun s h1 h2 => by
      rw [ha s h2, r1 s h1]
      exact in32 _
    refine ⟨tbOf_ok (fun q hq => ?_), fun f hf => (by cases hf), trivial, fun q hq => ?_, trivial, ?_, ⟨?_, by omega, ?_⟩, fun r hr => (by cases hr)⟩
    · simp only [lawT, List.mem_cons, List.not_mem_nil, or_false] at hq
      rcases hq with rfl | rfl | rfl | rfl | rfl | rfl | rfl
      · show (0 : Int) ≤ ρ' 0 ∧ ρ' 0 ≤ (N : Int)
        rw [h0]
        omega
      · exact hin 1 (by decide) (by decide)
      · exact hin 2 (by decide) (by decide)
      · exact hin 3 (by decide) (by decide)
      · exact hin 4 (by decide) (by decide)
      · exact hin 5 (by decide) (by decide)
      · exact hin 6 (by decide) (by decide)
    · rw [List.mem_singleton.mp hq]
      exact ⟨.ref sIdx, rfl, rfl⟩
    · show ev ρ' (sL 0) :: ev ρ' (kL 0) :: lawW.map (ev ρ') = _
      rw [ev_s, h0, ev_k, hW]
    · rw [ev_s, h0]
    · intro c w hc k hk hlt
      rw [ev_k] at hk
      have e : k = c := by omega
      have e2 : (lawW.map (ev ρ'))[c]? = (lawW.map (ev ρ0))[c]? := by rw [hW]
      rw [List.getElem?_map, List.getElem?_map, hc] at e2
      have e3 : ev ρ' w = ev ρ0 w := Option.some.inj e2
      rw [e3, hw c w hc, e]
  · intro q hq
    rw [List.mem_singleton.mp hq]
    rfl
