/-! ===== one call: the law up to the cases of its switch, and each case ===== -/
noncomputable def mid1 (P : Pt) (ks : List Nat) (ca cb pc : Nat) : PE := (pc, ks, P, sL 0 :: kL 0 :: lawW, none, ca, cb)
noncomputable def enL1 (N : Nat) (env : List Ct) (pts : List PE) (m n fuel : Nat) : Bool := goF (some (sL 0, kL 0, lawW)) false 13 4 tbLaw env pts (sL 0 :: kL 0 :: lawW) none (finL (sL 0 :: kL 0 :: lawW)) (lawM m n) fuel true 0 [] [(0, .inr (.inl (some sIdx)))] [] [] 7 (tbOf (lawT N)) [] 0 0
noncomputable def md1 (env : List Ct) (fuel : Nat) (P : Pt) (ks : List Nat) (ca cb : Nat) (ps : List Nat) : Bool := ps.all (fun p => runPtF true false 13 4 tbLaw env [] finL (lawM 0 0) fuel (mid1 P ks ca cb p))
theorem md1_nil {env : List Ct} {fuel : Nat} {P : Pt} {ks : List Nat} {ca cb : Nat} : ∀ p ∈ ([] : List Nat), runPtF true false 13 4 tbLaw env [] finL (lawM 0 0) fuel (mid1 P ks ca cb p) = true := fun _ h => (by cases h)
theorem md1_app {env : List Ct} {fuel : Nat} {P : Pt} {ks : List Nat} {ca cb : Nat} {ps qs : List Nat} (h1 : md1 env fuel P ks ca cb ps = true) (h2 : ∀ p ∈ qs, runPtF true false 13 4 tbLaw env [] finL (lawM 0 0) fuel (mid1 P ks ca cb p) = true) : ∀ p ∈ ps ++ qs, runPtF true false 13 4 tbLaw env [] finL (lawM 0 0) fuel (mid1 P ks ca cb p) = true := by
  intro p hp
  rcases List.mem_append.mp hp with h3 | h3
  · exact List.all_eq_true.mp h1 p h3
  · exact h2 p h3
set_option maxHeartbeats 4000000 in
theorem law1_ok {PP : Nat → List (List Int32) → List Int → Prop} (hFP : FPok PP) {N fuel m n : Nat} {env : List Ct} {P : Pt} {ks : List Nat} {ca cb : Nat} {ms : List Nat} (hN : N < 2 ^ 31) (hE : ∀ C ∈ env, ValidC PP C ∧ C.2.1 ≤ 799) (h : enL1 N env (ms.map (mid1 P ks ca cb)) m n fuel = true) (hm : ∀ p ∈ ms, runPtF true false 13 4 tbLaw env [] finL (lawM 0 0) fuel (mid1 P ks ca cb p) = true) (xs : List Int32) (hxs : xs.length ≤ N) : lawRuns xs := by
  unfold enL1 at h
  rw [goF_eq] at h
  generalize hr : (fun s => if s = 0 then (xs.length : Int) else (xs.getD (s - 1) 0).toInt : Nat → Int) = ρ0
  have r0 : ρ0 0 = (xs.length : Int) := by rw [← hr]; rfl
  have r1 : ∀ s, s ≠ 0 → ρ0 s = (xs.getD (s - 1) 0).toInt := fun s hs => by rw [← hr]; exact if_neg hs
  have hw : ∀ (c : Nat) (w : Ln), lawW[c]? = some w → ev ρ0 w = (xs.getD c 0).toInt := fun c w h => by
    match c, h with
    | 0, h => cases h; rw [ev_s, r1 1 (by decide)]
    | 1, h => cases h; rw [ev_s, r1 2 (by decide)]
    | 2, h => cases h; rw [ev_s, r1 3 (by decide)]
    | 3, h => cases h; rw [ev_s, r1 4 (by decide)]
    | 4, h => cases h; rw [ev_s, r1 5 (by decide)]
    | 5, h => cases h; rw [ev_s, r1 6 (by decide)]
  have hS : scG true (some xs) ((xs.length : Int) :: 0 :: lawW.map (ev ρ0)) := by
    refine ⟨rfl, by omega, 0, _, rfl, fun c v hv k hk hlt => ?_⟩
    rw [List.getElem?_map] at hv
    cases hc : lawW[c]? with
    | none => rw [hc] at hv; cases hv
    | some w =>
      rw [hc] at hv
      cases hv
      rw [hw c w hc]
      have : k = c := by omega
      rw [this]
  have hpts : ∀ p ∈ ms.map (mid1 P ks ca cb), PGood PP (some xs) false 13 4 tbLaw 799 ((xs.length : Int) :: 0 :: lawW.map (ev ρ0)) QL (fun _ _ => True) p := by
    intro p hp ρ1 cst1 qs1 clv1 cσ1 cca1 ccb1 a1 a2 a3 a4 a5 a6 a7 a8
    obtain ⟨pc, h4, rfl⟩ := List.mem_map.mp hp
    have h5 := hm pc h4
    rw [runPtF_eq] at h5
    exact runPt_ok (PP := PP) hFP lawM_ok (p := mid1 P ks ca cb pc) (scr := some xs) (G0 := ((xs.length : Int) :: 0 :: lawW.map (ev ρ0))) (Q := QL) (K := 0) (law := true) hS finL_ok hE (Or.inr law_sn) (fun p' hp' => (by cases hp')) h5 ρ1 cst1 qs1 clv1 cσ1 cca1 ccb1 a1 a2 a3 a4 a5 (fun r' hr' => by cases hr') a7 a8
  have hgood := go_ok (PP := PP) hFP lawM_ok (scr := some xs) (scl := some (sL 0, kL 0, lawW)) (G0 := ((xs.length : Int) :: 0 :: lawW.map (ev ρ0))) (rk := none) (K := 0) (finL_ok (sL 0 :: kL 0 :: lawW)) hE (Or.inr law_sn) (fun p hq => by
    intro ρ1 cst1 qs1 clv1 cσ1 cca1 ccb1 a1 a2 a3 a4 a5 a6 a7 a8
    exact hpts p hq ρ1 cst1 qs1 clv1 cσ1 cca1 ccb1 a1 a2 a3 a4 a5 trivial a7 a8) fuel true ρ0 _ _ _ _ _ _ _ _ _ _ [] [(0, .ref sIdx)] [] 0 0 h ⟨fun ρ' ha => ?_, fun _ _ p hq => (by cases hq), ?_⟩ (Nat.le_refl _) (Nat.le_refl _)
  · obtain ⟨R, ⟨F, n, kc, ks, he, e1, e2⟩, hq1, hq2, hq3⟩ := hgood
    try dsimp only at he e1 e2
    rw [Nat.zero_add] at e1 e2
    obtain ⟨r, σ', a, b⟩ := R
    try dsimp only at hq1 hq2 hq3 e1 e2 he
    subst hq1
    exact ⟨F, 799, n, σ', kc, ks, he, by decide, by omega, by omega⟩
  · have h0 : ρ' 0 = (xs.length : Int) := (ha 0 (by decide)).trans r0
    have hW : lawW.map (ev ρ') = lawW.map (ev ρ0) := by
      simp only [lawW, List.map_cons, List.map_nil, ev_s, ha 1 (by decide), ha 2 (by decide), ha 3 (by decide), ha 4 (by decide), ha 5 (by decide), ha 6 (by decide)]
    have hin : ∀ s, s ≠ 0 → s < 7 → lo32 ≤ ρ' s ∧ ρ' s ≤ hi32 := fun s h1 h2 => by
      rw [ha s h2, r1 s h1]
      exact in32 _
    refine ⟨tbOf_ok (fun q hq => ?_), fun f hf => (by cases hf), trivial, fun q hq => ?_, trivial, ?_, ⟨?_, by omega, ?_⟩, fun r hr => (by cases hr)⟩
    · simp only [lawT, List.mem_cons, List.not_mem_nil, or_false] at hq
      rcases hq with rfl | rfl | rfl | rfl | rfl | rfl | rfl
      · show (0 : Int) ≤ ρ' 0 ∧ ρ' 0 ≤ (N : Int)
        rw [h0]
        omega
      · exact hin 1 (by decide) (by decide)
      · exact hin 2 (by decide) (by decide)
      · exact hin 3 (by decide) (by decide)
      · exact hin 4 (by decide) (by decide)
      · exact hin 5 (by decide) (by decide)
      · exact hin 6 (by decide) (by decide)
    · rw [List.mem_singleton.mp hq]
      exact ⟨.ref sIdx, rfl, rfl⟩
    · show ev ρ' (sL 0) :: ev ρ' (kL 0) :: lawW.map (ev ρ') = _
      rw [ev_s, h0, ev_k, hW]
    · rw [ev_s, h0]
    · intro c w hc k hk hlt
      rw [ev_k] at hk
      have e : k = c := by omega
      have e2 : (lawW.map (ev ρ'))[c]? = (lawW.map (ev ρ0))[c]? := by rw [hW]
      rw [List.getElem?_map, List.getElem?_map, hc] at e2
      have e3 : ev ρ' w = ev ρ0 w := Option.some.inj e2
      rw [e3, hw c w hc, e]
  · intro q hq
    rw [List.mem_singleton.mp hq]
    rfl
