/-! ===== the law's loop: its heads; each iteration has a window of six of the script's ints ===== -/
/-- a head: where, which locals, the state (symbols: 0 the script's length, 1 the place), the counts -/
abbrev LH : Type := Nat × List Nat × Pt × Nat × Nat
noncomputable def wTab : Nat → Nat → TbL
  | 0, _ => []
  | c + 1, s => (s, lo32, hi32) :: wTab c (Nat.succ s)
noncomputable def headPE (h : LH) : PE := (h.1, h.2.1, (Nat.add h.2.2.1.1 6, h.2.2.1.2.1 ++ wTab 6 h.2.2.1.1, h.2.2.1.2.2.1, h.2.2.1.2.2.2.1, h.2.2.1.2.2.2.2.1, h.2.2.1.2.2.2.2.2), sL 0 :: sL 1 :: symsL 6 h.2.2.1.1, none, h.2.2.2.1, h.2.2.2.2)
noncomputable def nextPE (h : LH) : PE := (h.1, h.2.1, (Nat.add h.2.2.1.1 7, h.2.2.1.2.1, subL (sL 1) (pluL (sL h.2.2.1.1) 6) :: subL (pluL (sL h.2.2.1.1) 6) (sL 1) :: h.2.2.1.2.2.1, h.2.2.1.2.2.2.1, h.2.2.1.2.2.2.2.1, h.2.2.1.2.2.2.2.2), sL 0 :: sL h.2.2.1.1 :: symsL 6 (Nat.succ h.2.2.1.1), none, h.2.2.2.1, h.2.2.2.2)
noncomputable def okLH (h : LH) : Bool := bif scP h.2.2.1 then (bif Nat.ble 2 h.2.2.1.1 then le0 (tbOf h.2.2.1.2.1) h.2.2.1.2.2.1 (subL (sL 1) (sL 0)) else false) else false
noncomputable def zs6 : List Ln := [kL 0, kL 0, kL 0, kL 0, kL 0, kL 0]
noncomputable def lawH (hs : List LH) : HN := (noF, noM, (match hs with
  | h :: _ => Nat.shiftLeft 1 h.1
  | [] => 0), 0, 0)
theorem lawH_ok {PP : Nat → List (List Int32) → List Int → Prop} {hs : List LH} : HintOk PP (lawH hs) := ⟨noF_ok, noM_ok⟩
noncomputable def enLaw2 (N : Nat) (env : List Ct) (hs : List LH) (fuel : Nat) : Bool := go (some (sL 0, kL (.negSucc 5), zs6)) false 13 4 tbLaw env (hs.map nextPE) (sL 0 :: kL (.negSucc 5) :: zs6) none (finL (sL 0 :: kL (.negSucc 5) :: zs6)) (lawH hs) fuel true 0 [] [(0, .inr (.inl (some sIdx)))] [] [] 1 (tbOf [(0, .ofNat 0, .ofNat N)]) [] 0 0
noncomputable def hdLaw2 (env : List Ct) (hs : List LH) (fuel : Nat) (h : LH) : Bool := bif okLH h then runPt true false 13 4 tbLaw env (hs.map nextPE) finL (lawH hs) fuel (headPE h) else false
noncomputable def wsAt (xs : List Int32) (b : Int) : List Int := [(xs.getD b.toNat 0).toInt, (xs.getD (b + 1).toNat 0).toInt, (xs.getD (b + 2).toNat 0).toInt, (xs.getD (b + 3).toNat 0).toInt, (xs.getD (b + 4).toNat 0).toInt, (xs.getD (b + 5).toNat 0).toInt]
theorem wsAt_ok {xs : List Int32} {b : Int} {c : Nat} {v : Int} (h : (wsAt xs b)[c]? = some v) : ∀ k : Nat, (k : Int) = b + c → k < xs.length → (xs.getD k 0).toInt = v := by
  intro k hk _
  have e : ∀ d : Int, d = c → (b + d).toNat = k := fun d hd => by omega
  match c, h, hk, e with
  | 0, h, hk, e => cases h; rw [show b.toNat = k by omega]
  | 1, h, hk, e => cases h; rw [e 1 rfl]
  | 2, h, hk, e => cases h; rw [e 2 rfl]
  | 3, h, hk, e => cases h; rw [e 3 rfl]
  | 4, h, hk, e => cases h; rw [e 4 rfl]
  | 5, h, hk, e => cases h; rw [e 5 rfl]
theorem wTab_ok {ρ : Nat → Int} : ∀ {c s : Nat}, (∀ i, s ≤ i → i < s + c → lo32 ≤ ρ i ∧ ρ i ≤ hi32) → tOkL ρ (wTab c s) := by
  intro c
  induction c with
  | zero => intro s _ q hq; cases hq
  | succ c ih =>
    intro s h
    have h0 := h s (Nat.le_refl _) (by omega)
    intro q hq
    rcases List.mem_cons.mp hq with rfl | hq
    · exact h0
    · exact ih (s := s + 1) (fun i h1 h2 => h i (by omega) (by omega)) q hq
set_option maxHeartbeats 4000000 in
theorem law2_ok {PP : Nat → List (List Int32) → List Int → Prop} (hFP : FPok PP) {N fuel : Nat} {env : List Ct} {hs : List LH} (hN : N < 2 ^ 30) (hE : ∀ C ∈ env, ValidC PP C ∧ C.2.1 ≤ 799) (h : enLaw2 N env hs fuel = true) (hh : ∀ q ∈ hs, hdLaw2 env hs fuel q = true) (xs : List Int32) (hxs : xs.length ≤ N) : lawRuns xs := by
  have key : ∀ (n : Nat) (b : Int), (xs.length : Int) - b ≤ n → -6 ≤ b → ∀ (w : List Int), ∀ p ∈ hs.map nextPE, PGood PP (some xs) false 13 4 tbLaw 799 ((xs.length : Int) :: b :: w) QL (fun _ _ => True) p := by
    intro n
    induction n with
    | zero =>
      intro b hb hb6 w p hp ρ cst qs clv cσ cca ccb hpt hG hqs hlen hlv _ h1 h2
      exfalso
      obtain ⟨q, hq, rfl⟩ := List.mem_map.mp hp
      obtain ⟨c1, -⟩ := cand (hh q hq)
      obtain ⟨d1, d2⟩ := cand c1
      obtain ⟨d3, d4⟩ := cand d2
      obtain ⟨p1, p2, -⟩ := hpt
      have f1 := p2 _ List.mem_cons_self
      have f2 := p2 _ (List.mem_cons_of_mem _ List.mem_cons_self)
      have f3 := le0_ok (tbOf_ok p1) (fun e he => p2 e (List.mem_cons_of_mem _ (List.mem_cons_of_mem _ he))) d4
      simp only [nextPE, List.map_cons, List.cons.injEq, ev_s] at hG
      rw [ev_sub, ev_plu, ev_s, ev_s] at f1
      rw [ev_sub, ev_plu, ev_s, ev_s] at f2
      rw [ev_sub, ev_s, ev_s] at f3
      obtain ⟨g1, g2, -⟩ := hG
      omega
    | succ n ih =>
      intro b hb hb6 w p hp ρ cst qs clv cσ cca ccb hpt hG hqs hlen hlv _ h1 h2
      obtain ⟨q, hq, rfl⟩ := List.mem_map.mp hp
      obtain ⟨c1, c2⟩ := cand (hh q hq)
      obtain ⟨d1, d2⟩ := cand c1
      obtain ⟨d3, d4⟩ := cand d2
      have hm2 : 2 ≤ q.2.2.1.1 := Nat.le_of_ble_eq_true d3
      obtain ⟨p1, p2, p3, p4, p5⟩ := hpt
      have f1 := p2 _ List.mem_cons_self
      have f2 := p2 _ (List.mem_cons_of_mem _ List.mem_cons_self)
      have hfs : fOk ρ q.2.2.1.2.2.1 := fun e he => p2 e (List.mem_cons_of_mem _ (List.mem_cons_of_mem _ he))
      have f3 := le0_ok (tbOf_ok p1) hfs d4
      simp only [nextPE, List.map_cons, List.cons.injEq, ev_s] at hG
      rw [ev_sub, ev_plu, ev_s, ev_s] at f1
      rw [ev_sub, ev_plu, ev_s, ev_s] at f2
      rw [ev_sub, ev_s, ev_s] at f3
      obtain ⟨g1, g2, -⟩ := hG
      have hpt0 : PtOk PP ρ q.2.2.1 (cst ++ qs) cσ := ⟨p1, hfs, p3, p4, p5⟩
      let ρ2 : Nat → Int := fun s => if s < q.2.2.1.1 then ρ s else (wsAt xs (b + 6)).getD (s - q.2.2.1.1) 0
      have hag : agr2 q.2.2.1.1 ρ ρ2 := fun i hi => if_pos hi
      obtain ⟨k1, k2, k3, k4, k5⟩ := PtOk_agr d1 hag hpt0
      have hw : ∀ i, ρ2 (q.2.2.1.1 + i) = (wsAt xs (b + 6)).getD i 0 := fun i => by
        show (if q.2.2.1.1 + i < q.2.2.1.1 then _ else _) = _
        rw [if_neg (by omega), Nat.add_sub_cancel_left]
      have hgood := runPt_ok (PP := PP) hFP lawH_ok (p := headPE q) (scr := some xs) (G0 := (xs.length : Int) :: (b + 6) :: wsAt xs (b + 6)) (Q := QL) (K := 0) (law := true) (show scG true (some xs) ((xs.length : Int) :: (b + 6) :: wsAt xs (b + 6)) from ⟨rfl, by omega, b + 6, _, rfl, fun c v hv k hk hlt => wsAt_ok hv k hk hlt⟩) finL_ok hE (Or.inr law_sn) (fun p' hp' => by
        intro ρ1 cst1 qs1 clv1 cσ1 cca1 ccb1 a1 a2 a3 a4 a5 a6 a7 a8
        exact ih (b + 6) (by omega) (by omega) _ p' hp' ρ1 cst1 qs1 clv1 cσ1 cca1 ccb1 a1 a2 a3 a4 a5 trivial a7 a8) c2
      refine hgood ρ2 cst qs clv cσ cca ccb ⟨?_, k2, k3, k4, k5⟩ ?_ hqs hlen hlv (fun r' hr' => by cases hr') h1 h2
      · intro s hs
        rcases (List.mem_append.mp hs).symm with hs | hs
        · refine wTab_ok (c := 6) (s := q.2.2.1.1) (fun i hi1 hi2 => ?_) s hs
          obtain ⟨j, rfl⟩ : ∃ j, i = q.2.2.1.1 + j := ⟨i - q.2.2.1.1, by omega⟩
          rw [hw]
          match j, hi2 with
          | 0, _ => exact in32 _
          | 1, _ => exact in32 _
          | 2, _ => exact in32 _
          | 3, _ => exact in32 _
          | 4, _ => exact in32 _
          | 5, _ => exact in32 _
          | j + 6, hi2 => omega
        · exact k1 s hs
      · have e0 : ρ2 0 = ρ 0 := if_pos (by omega)
        have e1 : ρ2 1 = ρ 1 := if_pos (by omega)
        have w0 := hw 0
        have w1 := hw 1
        have w2 := hw 2
        have w3 := hw 3
        have w4 := hw 4
        have w5 := hw 5
        show ev ρ2 (sL 0) :: ev ρ2 (sL 1) :: (symsL 6 q.2.2.1.1).map (ev ρ2) = _
        rw [ev_s, ev_s, e0, e1, g1, show ρ 1 = b + 6 by omega]
        simp only [symsL, List.map_cons, List.map_nil, ev_s]
        show _ :: _ :: [ρ2 (q.2.2.1.1 + 0), ρ2 (q.2.2.1.1 + 1), ρ2 (q.2.2.1.1 + 2), ρ2 (q.2.2.1.1 + 3), ρ2 (q.2.2.1.1 + 4), ρ2 (q.2.2.1.1 + 5)] = _
        rw [w0, w1, w2, w3, w4, w5]
        rfl
  generalize hr : (fun s => if s = 0 then (xs.length : Int) else 0 : Nat → Int) = ρ0
  have r0 : ρ0 0 = (xs.length : Int) := by rw [← hr]; rfl
  have hgood := go_ok (PP := PP) hFP lawH_ok (scr := some xs) (scl := some (sL 0, kL (.negSucc 5), zs6)) (G0 := ((xs.length : Int) :: -6 :: zs6.map (ev ρ0))) (rk := none) (K := 0) (finL_ok (sL 0 :: kL (.negSucc 5) :: zs6)) hE (Or.inr law_sn) (fun p hq => by
    intro ρ1 cst1 qs1 clv1 cσ1 cca1 ccb1 a1 a2 a3 a4 a5 a6 a7 a8
    exact key (xs.length + 6) (-6) (by omega) (by omega) _ p hq ρ1 cst1 qs1 clv1 cσ1 cca1 ccb1 a1 a2 a3 a4 a5 trivial a7 a8) fuel true ρ0 _ _ _ _ _ _ _ _ _ _ [] [(0, .ref sIdx)] [] 0 0 h ⟨fun ρ' ha => ?_, fun _ _ p hq => (by cases hq), ?_⟩ (Nat.le_refl _) (Nat.le_refl _)
  · obtain ⟨R, ⟨F, n, kc, ks, he, e1, e2⟩, hq1, hq2, hq3⟩ := hgood
    try dsimp only at he e1 e2
    rw [Nat.zero_add] at e1 e2
    obtain ⟨r, σ', a, b⟩ := R
    try dsimp only at hq1 hq2 hq3 e1 e2 he
    subst hq1
    exact ⟨F, 799, n, σ', kc, ks, he, by decide, by omega, by omega⟩
  · have h0 : ρ' 0 = (xs.length : Int) := (ha 0 (by decide)).trans r0
    have hW : zs6.map (ev ρ') = zs6.map (ev ρ0) := by
      simp only [zs6, List.map_cons, List.map_nil, ev_k]
    refine ⟨tbOf_ok (fun q hq => ?_), fun f hf => (by cases hf), trivial, fun q hq => ?_, trivial, ?_, ⟨?_, by omega, ?_⟩, fun r hr => (by cases hr)⟩
    · rw [List.mem_singleton.mp hq]
      show (0 : Int) ≤ ρ' 0 ∧ ρ' 0 ≤ (N : Int)
      rw [h0]
      omega
    · rw [List.mem_singleton.mp hq]
      exact ⟨.ref sIdx, rfl, rfl⟩
    · show ev ρ' (sL 0) :: ev ρ' (kL (.negSucc 5)) :: zs6.map (ev ρ') = _
      rw [ev_s, h0, ev_k, hW]
      rfl
    · rw [ev_s, h0]
    · intro c w hc k hk hlt
      rw [ev_k] at hk
      have hc6 : c < 6 := (List.getElem?_eq_some_iff.mp hc).1
      have : (k : Int) = -6 + c := hk
      omega
  · intro q hq
    rw [List.mem_singleton.mp hq]
    rfl
