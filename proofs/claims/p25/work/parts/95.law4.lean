/-! ===== the law's loop, a head in pieces: up to the cases of its switch, and each case ===== -/
/-- n: how many symbols stay the head's at the cases -/
noncomputable def lawM (m n : Nat) : HN := (noF, noM, m, 0, n)
theorem lawM_ok {PP : Nat → List (List Int32) → List Int → Prop} {m n : Nat} : HintOk PP (lawM m n) := ⟨noF_ok, noM_ok⟩
noncomputable def mid4 (h : LH) (p : Nat) : PE := headPE (p, h.2.1, (h.2.2.1.1, h.2.2.1.2.1, pluL (subL (sL 1) (sL 0)) 6 :: h.2.2.1.2.2.1, h.2.2.1.2.2.2), h.2.2.2)
noncomputable def hd4F (env : List Ct) (hs : List LH) (ms : List Nat) (m fuel : Nat) (h : LH) : Bool := bif okLH h then runPtF true false 13 4 tbLaw env (hs.map nextPE ++ ms.map (mid4 h)) finL (lawM m (Nat.add h.2.2.1.1 6)) fuel (headPE h) else false
noncomputable def md4F (env : List Ct) (hs : List LH) (m fuel : Nat) (h : LH) (p : Nat) : Bool := runPtF true false 13 4 tbLaw env (nextPE h :: hs.map nextPE) finL (lawM m 0) fuel (mid4 h p)
noncomputable def md4A (env : List Ct) (hs : List LH) (m fuel : Nat) (h : LH) (ps : List Nat) : Bool := ps.all (md4F env hs m fuel h)
theorem md4_nil {env : List Ct} {hs : List LH} {m fuel : Nat} {h : LH} : ∀ p ∈ ([] : List Nat), md4F env hs m fuel h p = true := fun _ h => (by cases h)
theorem md4_app {env : List Ct} {hs : List LH} {m fuel : Nat} {h : LH} {ps qs : List Nat} (h1 : md4A env hs m fuel h ps = true) (h2 : ∀ p ∈ qs, md4F env hs m fuel h p = true) : ∀ p ∈ ps ++ qs, md4F env hs m fuel h p = true := by
  intro p hp
  rcases List.mem_append.mp hp with h3 | h3
  · exact List.all_eq_true.mp h1 p h3
  · exact h2 p h3
theorem hd4_ok {PP : Nat → List (List Int32) → List Int → Prop} (hFP : FPok PP) {m m' fuel : Nat} {env : List Ct} {hs : List LH} {ms : List Nat} {q : LH} (hqm : q ∈ hs) (hE : ∀ C ∈ env, ValidC PP C ∧ C.2.1 ≤ 799) (h : hd4F env hs ms m fuel q = true) (hm : ∀ p ∈ ms, md4F env hs m' fuel q p = true) {xs : List Int32} {b : Int} (hl : xs.length < 2 ^ 30) (hb : 0 ≤ b) (hP : ∀ p ∈ hs.map nextPE, PGood PP (some xs) false 13 4 tbLaw 799 ((xs.length : Int) :: b :: wsAt xs b) QL (fun _ _ => True) p) : okLH q = true ∧ PGood PP (some xs) false 13 4 tbLaw 799 ((xs.length : Int) :: b :: wsAt xs b) QL (fun r ρ => ∀ r', r = some r' → ev ρ r' = 0) (headPE q) := by
  unfold hd4F at h
  obtain ⟨c1, c2⟩ := cand h
  refine ⟨c1, ?_⟩
  rw [runPtF_eq] at c2
  have hsc : scG true (some xs) ((xs.length : Int) :: b :: wsAt xs b) := ⟨rfl, by omega, b, _, rfl, fun c v hv k hk hlt => wsAt_ok hv k hk hlt⟩
  refine runPt_ok (PP := PP) hFP lawM_ok (p := headPE q) (scr := some xs) (G0 := (xs.length : Int) :: b :: wsAt xs b) (Q := QL) (K := 0) (law := true) hsc finL_ok hE (Or.inr law_sn) (fun p' hp' => ?_) c2
  intro ρ1 cst1 qs1 clv1 cσ1 cca1 ccb1 a1 a2 a3 a4 a5 a6 a7 a8
  rcases List.mem_append.mp hp' with h3 | h3
  · exact hP p' h3 ρ1 cst1 qs1 clv1 cσ1 cca1 ccb1 a1 a2 a3 a4 a5 trivial a7 a8
  · obtain ⟨pc, h4, rfl⟩ := List.mem_map.mp h3
    have h5 := hm pc h4
    unfold md4F at h5
    rw [runPtF_eq] at h5
    exact runPt_ok (PP := PP) hFP lawM_ok (p := mid4 q pc) (scr := some xs) (G0 := (xs.length : Int) :: b :: wsAt xs b) (Q := QL) (K := 0) (law := true) hsc finL_ok hE (Or.inr law_sn) (fun p' hp' => by
      have hp2 : p' ∈ hs.map nextPE := by
        rcases List.mem_cons.mp hp' with h9 | h9
        · rw [h9]
          exact List.mem_map.mpr ⟨q, hqm, rfl⟩
        · exact h9
      intro ρ1 cst1 qs1 clv1 cσ1 cca1 ccb1 a1 a2 a3 a4 a5 a6 a7 a8
      exact hP p' hp2 ρ1 cst1 qs1 clv1 cσ1 cca1 ccb1 a1 a2 a3 a4 a5 trivial a7 a8) h5 ρ1 cst1 qs1 clv1 cσ1 cca1 ccb1 a1 a2 a3 a4 a5 (fun r' hr' => by cases hr') a7 a8
theorem hd4_l {env : List Ct} {hs : List LH} {ms : List Nat} {m fuel : Nat} {q : LH} (h : hd4F env hs ms m fuel q = true) : okLH q = true := by
  unfold hd4F at h
  exact (cand h).1
set_option maxHeartbeats 4000000 in
theorem law4_ok {PP : Nat → List (List Int32) → List Int → Prop} (hFP : FPok PP) {N fuel m m' : Nat} {ms : List Nat} {env : List Ct} {hs : List LH} (hN : N < 2 ^ 30) (hE : ∀ C ∈ env, ValidC PP C ∧ C.2.1 ≤ 799) (h : enLaw2 N env hs fuel = true) (hh : ∀ q ∈ hs, hd4F env hs ms m fuel q = true ∧ ∀ p ∈ ms, md4F env hs m' fuel q p = true) (xs : List Int32) (hxs : xs.length ≤ N) : lawRuns xs := by
  have key : ∀ (n : Nat) (b : Int), (xs.length : Int) - b ≤ n → -6 ≤ b → ∀ (w : List Int), ∀ p ∈ hs.map nextPE, PGood PP (some xs) false 13 4 tbLaw 799 ((xs.length : Int) :: b :: w) QL (fun _ _ => True) p := by
    intro n
    induction n with
    | zero =>
      intro b hb hb6 w p hp ρ cst qs clv cσ cca ccb hpt hG hqs hlen hlv _ h1 h2
      exfalso
      obtain ⟨q, hq, rfl⟩ := List.mem_map.mp hp
      have c1 := hd4_l (hh q hq).1
      obtain ⟨d1, d2⟩ := cand c1
      obtain ⟨d3, d4⟩ := cand d2
      obtain ⟨p1, p2, -⟩ := hpt
      have f1 := p2 _ List.mem_cons_self
      have f2 := p2 _ (List.mem_cons_of_mem _ List.mem_cons_self)
      have f3 := le0_ok (tbOf_ok p1) (fun e he => p2 e (List.mem_cons_of_mem _ (List.mem_cons_of_mem _ he))) d4
      simp only [nextPE, List.map_cons, List.cons.injEq, ev_s] at hG
      rw [ev_sub, ev_plu, ev_s, ev_s] at f1
      rw [ev_sub, ev_plu, ev_s, ev_s] at f2
      rw [ev_sub, ev_s, ev_s] at f3
      obtain ⟨g1, g2, -⟩ := hG
      omega
    | succ n ih =>
      intro b hb hb6 w p hp ρ cst qs clv cσ cca ccb hpt hG hqs hlen hlv _ h1 h2
      obtain ⟨q, hq, rfl⟩ := List.mem_map.mp hp
      have c1 := hd4_l (hh q hq).1
      obtain ⟨d1, d2⟩ := cand c1
      obtain ⟨d3, d4⟩ := cand d2
      have hm2 : 2 ≤ q.2.2.1.1 := Nat.le_of_ble_eq_true d3
      obtain ⟨p1, p2, p3, p4, p5⟩ := hpt
      have f1 := p2 _ List.mem_cons_self
      have f2 := p2 _ (List.mem_cons_of_mem _ List.mem_cons_self)
      have hfs : fOk ρ q.2.2.1.2.2.1 := fun e he => p2 e (List.mem_cons_of_mem _ (List.mem_cons_of_mem _ he))
      have f3 := le0_ok (tbOf_ok p1) hfs d4
      simp only [nextPE, List.map_cons, List.cons.injEq, ev_s] at hG
      rw [ev_sub, ev_plu, ev_s, ev_s] at f1
      rw [ev_sub, ev_plu, ev_s, ev_s] at f2
      rw [ev_sub, ev_s, ev_s] at f3
      obtain ⟨g1, g2, -⟩ := hG
      have hpt0 : PtOk PP ρ q.2.2.1 (cst ++ qs) cσ := ⟨p1, hfs, p3, p4, p5⟩
      let ρ2 : Nat → Int := fun s => if s < q.2.2.1.1 then ρ s else (wsAt xs (b + 6)).getD (s - q.2.2.1.1) 0
      have hag : agr2 q.2.2.1.1 ρ ρ2 := fun i hi => if_pos hi
      obtain ⟨k1, k2, k3, k4, k5⟩ := PtOk_agr d1 hag hpt0
      have hw : ∀ i, ρ2 (q.2.2.1.1 + i) = (wsAt xs (b + 6)).getD i 0 := fun i => by
        show (if q.2.2.1.1 + i < q.2.2.1.1 then _ else _) = _
        rw [if_neg (by omega), Nat.add_sub_cancel_left]
      obtain ⟨-, hgood⟩ := hd4_ok (PP := PP) hFP hq hE (hh q hq).1 (hh q hq).2 (xs := xs) (b := b + 6) (by omega) (by omega) (fun p' hp' => ih (b + 6) (by omega) (by omega) _ p' hp')
      refine hgood ρ2 cst qs clv cσ cca ccb ⟨?_, k2, k3, k4, k5⟩ ?_ hqs hlen hlv (fun r' hr' => by cases hr') h1 h2
      · intro s hs
        rcases (List.mem_append.mp hs).symm with hs | hs
        · refine wTab_ok (c := 6) (s := q.2.2.1.1) (fun i hi1 hi2 => ?_) s hs
          obtain ⟨j, rfl⟩ : ∃ j, i = q.2.2.1.1 + j := ⟨i - q.2.2.1.1, by omega⟩
          rw [hw]
          match j, hi2 with
          | 0, _ => exact in32 _
          | 1, _ => exact in32 _
          | 2, _ => exact in32 _
          | 3, _ => exact in32 _
          | 4, _ => exact in32 _
          | 5, _ => exact in32 _
          | j + 6, hi2 => omega
        · exact k1 s hs
      · have e0 : ρ2 0 = ρ 0 := if_pos (by omega)
        have e1 : ρ2 1 = ρ 1 := if_pos (by omega)
        have w0 := hw 0
        have w1 := hw 1
        have w2 := hw 2
        have w3 := hw 3
        have w4 := hw 4
        have w5 := hw 5
        show ev ρ2 (sL 0) :: ev ρ2 (sL 1) :: (symsL 6 q.2.2.1.1).map (ev ρ2) = _
        rw [ev_s, ev_s, e0, e1, g1, show ρ 1 = b + 6 by omega]
        simp only [symsL, List.map_cons, List.map_nil, ev_s]
        show _ :: _ :: [ρ2 (q.2.2.1.1 + 0), ρ2 (q.2.2.1.1 + 1), ρ2 (q.2.2.1.1 + 2), ρ2 (q.2.2.1.1 + 3), ρ2 (q.2.2.1.1 + 4), ρ2 (q.2.2.1.1 + 5)] = _
        rw [w0, w1, w2, w3, w4, w5]
        rfl
  generalize hr : (fun s => if s = 0 then (xs.length : Int) else 0 : Nat → Int) = ρ0
  have r0 : ρ0 0 = (xs.length : Int) := by rw [← hr]; rfl
  have hgood := go_ok (PP := PP) hFP lawH_ok (scr := some xs) (scl := some (sL 0, kL (.negSucc 5), zs6)) (G0 := ((xs.length : Int) :: -6 :: zs6.map (ev ρ0))) (rk := none) (K := 0) (finL_ok (sL 0 :: kL (.negSucc 5) :: zs6)) hE (Or.inr law_sn) (fun p hq => by
    intro ρ1 cst1 qs1 clv1 cσ1 cca1 ccb1 a1 a2 a3 a4 a5 a6 a7 a8
    exact key (xs.length + 6) (-6) (by omega) (by omega) _ p hq ρ1 cst1 qs1 clv1 cσ1 cca1 ccb1 a1 a2 a3 a4 a5 trivial a7 a8) fuel true ρ0 _ _ _ _ _ _ _ _ _ _ [] [(0, .ref sIdx)] [] 0 0 h ⟨fun ρ' ha => ?_, fun _ _ p hq => (by cases hq), ?_⟩ (Nat.le_refl _) (Nat.le_refl _)
  · obtain ⟨R, ⟨F, n, kc, ks, he, e1, e2⟩, hq1, hq2, hq3⟩ := hgood
    try dsimp only at he e1 e2
    rw [Nat.zero_add] at e1 e2
    obtain ⟨r, σ', a, b⟩ := R
    try dsimp only at hq1 hq2 hq3 e1 e2 he
    subst hq1
    exact ⟨F, 799, n, σ', kc, ks, he, by decide, by omega, by omega⟩
  · have h0 : ρ' 0 = (xs.length : Int) := (ha 0 (by decide)).trans r0
    have hW : zs6.map (ev ρ') = zs6.map (ev ρ0) := by
      simp only [zs6, List.map_cons, List.map_nil, ev_k]
    refine ⟨tbOf_ok (fun q hq => ?_), fun f hf => (by cases hf), trivial, fun q hq => ?_, trivial, ?_, ⟨?_, by omega, ?_⟩, fun r hr => (by cases hr)⟩
    · rw [List.mem_singleton.mp hq]
      show (0 : Int) ≤ ρ' 0 ∧ ρ' 0 ≤ (N : Int)
      rw [h0]
      omega
    · rw [List.mem_singleton.mp hq]
      exact ⟨.ref sIdx, rfl, rfl⟩
    · show ev ρ' (sL 0) :: ev ρ' (kL (.negSucc 5)) :: zs6.map (ev ρ') = _
      rw [ev_s, h0, ev_k, hW]
      rfl
    · rw [ev_s, h0]
    · intro c w hc k hk hlt
      rw [ev_k] at hk
      have hc6 : c < 6 := (List.getElem?_eq_some_iff.mp hc).1
      have : (k : Int) = -6 + c := hk
      omega
  · intro q hq
    rw [List.mem_singleton.mp hq]
    rfl
