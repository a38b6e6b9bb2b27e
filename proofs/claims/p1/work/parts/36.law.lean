/-! ===== the law by the runner ===== -/
def finL (G : List Ln) : FN := fun r _ _ tab fs ca cb => match r with
  | some (.inl (false, e)) => bif eqL tab fs e (kL 1) then (bif Nat.ble ca 600000 then Nat.ble cb 7302250 else false) else false
  | _ => false
def QL (R : Res) : Prop := R.1 = some (.int 1) ∧ R.2.2.1 ≤ 600000 ∧ R.2.2.2 ≤ 7302250
theorem finL_ok {PP : Nat → List (List Int32) → Prop} {G0 : List Int} (G : List Ln) : FinOk PP G G0 QL (finL G) := by
  intro ρ r A pr tab fs ca cb v σ cca ccb h ht hf hv hA hG hp h1 h2
  unfold finL at h
  split at h
  · rename_i e
    obtain ⟨c1, c2⟩ := cand h
    obtain ⟨c3, c4⟩ := cand c2
    cases v with
    | none => exact hv.elim
    | some v =>
      obtain ⟨x, e1, hx⟩ := vI_inv hv.1
      subst e1
      have h3 := eqL_ok ht hf c1
      rw [ev_k, ← hx] at h3
      have h4 : x = 1 := by
        rw [← ofInt32 x, h3]
        rfl
      subst h4
      exact ⟨rfl, Nat.le_trans h1 (Nat.le_of_ble_eq_true c3), Nat.le_trans h2 (Nat.le_of_ble_eq_true c4)⟩
  · cases h
def noAA (tb : List (List (Option XE))) : Bool := tb.all fun r => r.all fun e => match e with
  | some (.aaload, _) => false
  | _ => true
set_option maxRecDepth 100000 in
theorem tbLaw_noAA : noAA tbLaw = true := by decide +kernel
theorem law_sn : ∀ pc en, tbGet tbLaw pc = some en → en.1 ≠ .aaload := by
  intro pc en h
  obtain ⟨-, r, hr, he⟩ := tbGet_mem h
  have h1 := List.all_eq_true.mp (List.all_eq_true.mp tbLaw_noAA r hr) _ he
  obtain ⟨i, q⟩ := en
  intro hi
  dsimp only at hi
  subst hi
  cases h1
def enLaw (N : Nat) (env : List Ct) (pts : List PE) (fuel : Nat) : Bool := go (some (sL 0)) false 13 4 tbLaw env pts [sL 0] none (finL [sL 0]) noH fuel true 0 [] [(0, .inr (.inl (some sIdx)))] [] [] 1 [(0, .ofNat 0, .ofNat N)] [] 0 0
def ptLaw (env : List Ct) (pts : List PE) (fuel : Nat) (p : PE) : Bool := bif rkNn p then runPt true false 13 4 tbLaw env pts finL noH fuel p else false
set_option maxHeartbeats 4000000 in
theorem law_ok {PP : Nat → List (List Int32) → Prop} (hFP : FPok PP) {N fuel : Nat} {env : List Ct} {pts : List PE} (hN : N < 2 ^ 31) (hE : ∀ C ∈ env, ValidC PP C ∧ C.2.1 ≤ 799) (h : enLaw N env (pts ++ []) fuel = true) (hp : ∀ p ∈ pts, ptLaw env (pts ++ []) fuel p = true) (xs : List Int32) (hxs : xs.length ≤ N) : lawRuns xs := by
  have hS : scG true (some xs) [(xs.length : Int)] := ⟨rfl, rfl, by omega⟩
  have hpts := pts_ok (PP := PP) hFP noH_ok (scr := some xs) (ini := false) (o := 13) (nL := 4) (tb := tbLaw) (G0 := [(xs.length : Int)]) (Q := QL) (d := 799) (law := true) (ext := []) (fuel := fuel) (fin := finL) hS finL_ok hE (Or.inr law_sn) (fun p hq => (by cases hq)) (fun p hq => cand (hp p hq))
  have hgood := go_ok (PP := PP) hFP noH_ok (scr := some xs) (scl := some (sL 0)) (G0 := [(xs.length : Int)]) (rk := none) (K := 0) (finL_ok [sL 0]) hE (Or.inr law_sn) (fun p hq => by
    intro ρ1 cst1 qs1 clv1 cσ1 cca1 ccb1 a1 a2 a3 a4 a5 a6 a7 a8
    exact hpts p hq ρ1 cst1 qs1 clv1 cσ1 cca1 ccb1 a1 a2 a3 a4 a5 trivial a7 a8) fuel true (fun _ => (xs.length : Int)) _ _ _ _ _ _ _ _ _ _ [] [(0, .ref sIdx)] [] 0 0 h ⟨fun ρ' ha => ?_, fun p hq => (by cases hq), ?_⟩ (Nat.le_refl _) (Nat.le_refl _)
  · obtain ⟨R, ⟨F, n, kc, ks, he, e1, e2⟩, hq1, hq2, hq3⟩ := hgood
    dsimp only at he e1 e2
    rw [Nat.zero_add] at e1 e2
    obtain ⟨r, σ', a, b⟩ := R
    dsimp only at hq1 hq2 hq3 e1 e2 he
    subst hq1
    exact ⟨F, 799, n, σ', kc, ks, he, by decide, by omega, by omega⟩
  · have h0 : ρ' 0 = (xs.length : Int) := ha 0 (by decide)
    refine ⟨fun q hq => ?_, fun f hf => (by cases hf), trivial, fun q hq => ?_, trivial, ?_, ⟨?_, by omega⟩, fun r hr => (by cases hr)⟩
    · rw [List.mem_singleton.mp hq]
      show (0 : Int) ≤ ρ' 0 ∧ ρ' 0 ≤ (N : Int)
      rw [h0]
      omega
    · rw [List.mem_singleton.mp hq]
      exact ⟨.ref sIdx, rfl, rfl⟩
    · show [ev ρ' (sL 0)] = _
      rw [ev_s, h0]
    · rw [ev_s, h0]
  · intro q hq
    rw [List.mem_singleton.mp hq]
    rfl
